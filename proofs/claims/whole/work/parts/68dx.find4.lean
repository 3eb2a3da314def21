/-! The reference: find whole -/
/-- what find changes -/
def ffr (a : Nat) (H H1 : mu_H) : Prop := rfr [19, 20, 21] [] (fun _ => False) a (10 * a) H H1
theorem si9n {H : mu_H} {k i : Nat} {x : Int32} (h : i ≠ k) : mu_i (mu_si H 169 k x) 169 i = mu_i H 169 i := by rw [mu_i_si, if_neg (fun z => h z.2)]
theorem si9e {H : mu_H} {k : Nat} {x : Int32} : mu_i (mu_si H 169 k x) 169 k = x := by rw [mu_i_si, if_pos ⟨rfl, rfl⟩]
section Ffr
variable {a b : Nat} {Hb H H1 H2 : mu_H} {D : MD} {x : Int32} {k : Nat} {Fi Fr : List Nat} {W : Nat → Prop}
theorem ffr.rf : ffr 0 H H := rfr.rf
theorem ffr.wk (h : ffr a H H1) (hb : a ≤ b) : ffr b H H1 := rfr.wk h (fun _ z => z) (fun _ z => z) (fun _ _ z => z) hb (by omega)
theorem ffr.tr (h1 : ffr a H H1) (h2 : ffr b H1 H2) : ffr (a + b) H H2 := (rfr.tr h1 h2 (W := fun _ => False) (Fi := [19, 20, 21]) (Fr := []) (fun k z => z.elim id id) (fun k z => z.elim id id) (fun p _ z => z.elim id id)).wk (fun _ z => z) (fun _ z => z) (fun _ _ z => z) (Nat.le_refl _) (by omega)
theorem ffr.si (h : ffr a H H1) (hk : k ∈ [19, 20, 21]) : ffr a H (mu_si H1 169 k x) := rfr.si h hk
theorem rfr.ex (h : rfr Fi Fr W a b H H1) : rfr Fi Fr W (a + 1) (b + 6) H (mu_ex H1) := ⟨h.1.exc, h.2.1, h.2.2.1, h.2.2.2⟩
theorem ffr.ex (h : ffr a H H1) : ffr (a + 1) H (mu_ex H1) := (rfr.ex h).wk (fun _ z => z) (fun _ z => z) (fun _ _ z => z) (Nat.le_refl _) (by omega)
theorem ffr.rms (h : ffr a H H1) (hr : rms Hb D H) : rms Hb D H1 := hr.fr h (fun _ z => z.elim) (by decide) (by decide)
end Ffr
/-- what a name stands for, at the INSTANCE j: a VARIABLE, a symbol, what stands for it -/
def fno (D : MD) (j : Nat) (ns : List (List Int32)) : Option (Int32 × Int32 × Int32) := match fwk D ns (ns.length - 1) 0 j with
  | none => none
  | some i => match fnd (D.md i).2.2 73 (ns.getD (ns.length - 1) []) with
    | some q => if (D.Iv i).2.2.1 q < 0 then none else some ((D.Iv i).2.2.1 q, -1, fvS (D.Iv i) (if ns.length = 1 then fpm (D.md i).2.1 (ns.getD (ns.length - 1) []) else none) (fnd (D.md i).2.2 74 (ns.getD (ns.length - 1) [])))
    | none => if fvS (D.Iv i) (if ns.length = 1 then fpm (D.md i).2.1 (ns.getD (ns.length - 1) []) else none) (fnd (D.md i).2.2 74 (ns.getD (ns.length - 1) [])) < 0 then (if (if ns.length = 1 then fid (fun i => decide (D.sy.getD i [] = (ns.getD (ns.length - 1) []))) D.sy.length 0 else -1) < 0 then none else some (-1, (if ns.length = 1 then fid (fun i => decide (D.sy.getD i [] = (ns.getD (ns.length - 1) []))) D.sy.length 0 else -1), fvS (D.Iv i) (if ns.length = 1 then fpm (D.md i).2.1 (ns.getD (ns.length - 1) []) else none) (fnd (D.md i).2.2 74 (ns.getD (ns.length - 1) [])))) else some (-1, -1, fvS (D.Iv i) (if ns.length = 1 then fpm (D.md i).2.1 (ns.getD (ns.length - 1) []) else none) (fnd (D.md i).2.2 74 (ns.getD (ns.length - 1) [])))
theorem rp_fnd {d nb j : Nat} {Hb H : mu_H} {D : MD} {ns : List (List Int32)} (hr : rms Hb D H) (hj : j < D.n) (hnm : nmf H D.G (some nb) ns) (hns : 0 < ns.length) : mu_TE 2 (mu_D (d + 6)) 434 [.inr (.inr (some 169)), .inr (.inr (some (D.ip j))), .inr (.inr (some nb))] H (fun H1 => fno D j ns = none ∧ ffr 1 H H1) (fun v H1 => v = none ∧ ffr 0 H H1 ∧ fno D j ns = some (mu_i H1 169 19, mu_i H1 169 20, mu_i H1 169 21)) := by
  refine mu_meth (M := mu_m434) rfl rfl ?_
  refine mw_ht (mu_fn_of (show [0, 1, 2].Nodup by decide)) ?_
  refine mw_go mu_g434 (k := 4) (f1 := (5, [(4, .inl (0 : Int32)), (3, .inr (.inr (some (D.ip j)))), (0, .inr (.inr (some 169))), (1, .inr (.inr (some (D.ip j)))), (2, .inr (.inr (some nb)))], [], H)) (C := []) rfl trivial ?_
  refine mw_sub (L' := [(4, .inl (nI 0)), (3, .inr (.inr (some (D.ip j)))), (2, .inr (.inr (some nb))), (0, .inr (.inr (some 169)))]) (by simp [nI]) ?_
  obtain ⟨nb', q1, q2, q3, q4, q5, q6⟩ := hnm.rd hns
  cases q1
  refine rp_fd1 hr ⟨q3, q4, q5⟩ q6 (R := fwk D ns (ns.length - 1) 0 j) (fun e => Or.inl ⟨_, rfl, by unfold fno; rw [e], ffr.rf.ex⟩) (fun i hi e => ?_) (ns.length - 1) 0 j (by omega) hj rfl
  have e := e.symm
  refine rp_fd2 hr ⟨q3, q4, q5⟩ q6 hi hns (fun s sf => ?_)
  refine rp_fd3 hr ⟨q3, q4, q5⟩ q6 hi hns sf ?_
  have f1 : ffr 0 H (mu_si (mu_si H 169 19 (fvV (D.Iv i) (fnd (D.md i).2.2 73 (ns.getD (ns.length - 1) [])))) 169 20 (-1)) := (ffr.rf.si (by decide)).si (by decide)
  have i1 : mu_i (mu_si (mu_si H 169 19 (fvV (D.Iv i) (fnd (D.md i).2.2 73 (ns.getD (ns.length - 1) [])))) 169 20 (-1)) 169 19 = fvV (D.Iv i) (fnd (D.md i).2.2 73 (ns.getD (ns.length - 1) [])) := by rw [mu_i_si, if_neg (fun z => absurd z.2 (by decide)), mu_i_si, if_pos ⟨rfl, rfl⟩]
  have i2 : mu_i (mu_si (mu_si H 169 19 (fvV (D.Iv i) (fnd (D.md i).2.2 73 (ns.getD (ns.length - 1) [])))) 169 20 (-1)) 169 20 = -1 := by rw [mu_i_si, if_pos ⟨rfl, rfl⟩]
  obtain ⟨K, eK⟩ : ∃ K, K = (mu_si (mu_si H 169 19 (fvV (D.Iv i) (fnd (D.md i).2.2 73 (ns.getD (ns.length - 1) [])))) 169 20 (-1)) := ⟨_, rfl⟩
  rw [← eK] at f1 i1 i2 ⊢
  clear eK
  have kG : ∀ {K' : mu_H}, ffr 0 H K' → nmf K' D.G (some nb) ns ∧ stf K' D.G s (ns.getD (ns.length - 1) []) := fun {K'} f => ⟨hnm.kp f.1 (fun p z => z.elim (fun y => by subst y; exact ⟨fun w => absurd (hr.2.1.2.2.2 _ w).1 (by decide), by decide⟩) (fun y => y.elim)), sf.kp f.1 (fun p z => z.elim (fun y => by subst y; exact ⟨fun w => absurd (hr.2.1.2.2.2 _ w).1 (by decide), by decide⟩) (fun y => y.elim))⟩
  obtain ⟨nb1, p1, p2, p3, p4, p5, p6⟩ := (kG f1).1.rd hns
  cases p1
  have wfi := (hr.ins hi).2.2.2.2.2.2.2
  refine rp_fd4 (f1.rms hr) ⟨p3, p4, p5⟩ p6 hi hns (fun p ep => ?_) (fun q eq => ?_) ?_
  · by_cases e1 : ns.length = 1
    · rw [if_pos e1] at ep
      have := (fio_some _ _ _ ep).2.2.1
      have h26 : (D.md i).2.1.length ≤ 2 ^ 21 := by
        obtain ⟨m, _, md⟩ := (hr.ins hi).2.1
        obtain ⟨_, _, ⟨pp, _, pn⟩, _⟩ := mdf.rd md
        exact pn.s26
      omega
    · rw [if_neg e1] at ep; cases ep
  · have := (fio_some _ _ _ eq).2.2.1
    omega
  have f2 : ffr 0 H (mu_si K 169 21 (fvS (D.Iv i) (if ns.length = 1 then fpm (D.md i).2.1 (ns.getD (ns.length - 1) []) else none) (fnd (D.md i).2.2 74 (ns.getD (ns.length - 1) [])))) := f1.si (by decide)
  have j1 : mu_i (mu_si K 169 21 (fvS (D.Iv i) (if ns.length = 1 then fpm (D.md i).2.1 (ns.getD (ns.length - 1) []) else none) (fnd (D.md i).2.2 74 (ns.getD (ns.length - 1) [])))) 169 19 = fvV (D.Iv i) (fnd (D.md i).2.2 73 (ns.getD (ns.length - 1) [])) := by rw [mu_i_si, if_neg (fun z => absurd z.2 (by decide))]; exact i1
  have j2 : mu_i (mu_si K 169 21 (fvS (D.Iv i) (if ns.length = 1 then fpm (D.md i).2.1 (ns.getD (ns.length - 1) []) else none) (fnd (D.md i).2.2 74 (ns.getD (ns.length - 1) [])))) 169 20 = -1 := by rw [mu_i_si, if_neg (fun z => absurd z.2 (by decide))]; exact i2
  have j3 : mu_i (mu_si K 169 21 (fvS (D.Iv i) (if ns.length = 1 then fpm (D.md i).2.1 (ns.getD (ns.length - 1) []) else none) (fnd (D.md i).2.2 74 (ns.getD (ns.length - 1) [])))) 169 21 = fvS (D.Iv i) (if ns.length = 1 then fpm (D.md i).2.1 (ns.getD (ns.length - 1) []) else none) (fnd (D.md i).2.2 74 (ns.getD (ns.length - 1) [])) := by rw [mu_i_si, if_pos ⟨rfl, rfl⟩]
  obtain ⟨M, eM⟩ : ∃ M, M = (mu_si K 169 21 (fvS (D.Iv i) (if ns.length = 1 then fpm (D.md i).2.1 (ns.getD (ns.length - 1) []) else none) (fnd (D.md i).2.2 74 (ns.getD (ns.length - 1) [])))) := ⟨_, rfl⟩
  rw [← eM] at f2 j1 j2 j3 ⊢
  clear eM
  obtain ⟨nb2, p1, p2, p3, p4, p5, p6⟩ := (kG f2).1.rd hns
  cases p1
  refine mw_sub (L' := [(7, .inl (oI (fnd (D.md i).2.2 73 (ns.getD (ns.length - 1) [])))), (4, .inr (.inr (some s))), (3, .inr (.inr (some (D.ip i)))), (2, .inr (.inr (some nb))), (0, .inr (.inr (some 169)))]) (by simp) ?_
  refine rp_fd5 (f2.rms hr) ⟨p3, p4, p5⟩ p6 hi hns (kG f2).2 j1 j3 (fun q eq => ?_) (fun v1 v2 => Or.inl ⟨_, rfl, ?_, f2.ex⟩) (fun v1 v2 => Or.inr ⟨_, _, rfl, rfl, f2, ?_⟩) (fun v1 v2 => Or.inr ⟨_, _, rfl, rfl, f2, ?_⟩) (fun v1 v2 v3 => Or.inl ⟨_, rfl, ?_, (f2.si (by decide)).ex⟩) (fun v1 v2 v3 => Or.inr ⟨_, _, rfl, rfl, f2.si (by decide), ?_⟩)
  · have := (fio_some _ _ _ eq).2.2.1
    omega
  · unfold fno
    rw [e]
    dsimp only
    cases hv : fnd (D.md i).2.2 73 (ns.getD (ns.length - 1) []) with
    | none => rw [hv] at v1; cases v1
    | some q => rw [hv] at v2; exact if_pos v2
  · rw [j1, j2, j3]
    unfold fno
    rw [e]
    dsimp only
    cases hv : fnd (D.md i).2.2 73 (ns.getD (ns.length - 1) []) with
    | none => rw [hv] at v1; cases v1
    | some q => rw [hv] at v2; exact if_neg v2
  · rw [j1, j2, j3]
    unfold fno
    rw [e]
    dsimp only
    rw [v1]
    exact if_neg v2
  · unfold fno
    rw [e]
    dsimp only
    rw [v1]
    exact (if_pos v2).trans (if_pos v3)
  · rw [si9n (k := 20) (i := 19) (by decide), si9e (k := 20), si9n (k := 20) (i := 21) (by decide), j1, j3, v1]
    unfold fno
    rw [e]
    dsimp only
    rw [v1]
    exact (if_pos v2).trans (if_neg v3)
