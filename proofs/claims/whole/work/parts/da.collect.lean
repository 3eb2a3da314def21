/-! WHAT IS COLLECTED: claims of a kind and lines of a form, in all INSTANCES -/
section Collect
variable {Y : Ts} {kd fm stg : Int32} {n0 B B' i c n r : Nat} {t0 t : Tb} {PC PL PC' PL' : Nat → Nat → Prop}
def TKc (Y : Ts) (stg : Int32) (t : Tb) (r i c : Nat) : Prop := t.2 r 0 = (Y 8).2 c 1 ∧ t.2 r 1 = (Y 8).2 c 2 ∧ t.2 r 2 = nI i ∧ t.2 r 3 = -1 ∧ t.2 r 4 = stg
/-- the VARIABLE of a line -/
def lvr (Y : Ts) (i n : Nat) : Int32 := (Y 12).2 (ia Y i + (((Y 7).2 n 1).toNatClampNeg - sp Y (im Y i) 2)) 0
def TKl (Y : Ts) (stg : Int32) (t : Tb) (r i n : Nat) : Prop := t.2 r 0 = (Y 7).2 n 2 ∧ t.2 r 1 = (Y 7).2 n 3 ∧ t.2 r 2 = nI i ∧ t.2 r 3 = lvr Y i n ∧ t.2 r 4 = stg
def TKS (Y : Ts) (kd fm stg : Int32) (n0 : Nat) (t0 t : Tb) (PC PL : Nat → Nat → Prop) (B : Nat) : Prop := (n0 ≤ t.1 ∧ t.1 ≤ n0 + B) ∧ (∀ r c, r < n0 → t.2 r c = t0.2 r c) ∧ (∀ r, n0 ≤ r → r < t.1 → (∃ i c, PC i c ∧ (Y 8).2 c 0 = kd ∧ TKc Y stg t r i c) ∨ (∃ i n, PL i n ∧ (Y 7).2 n 0 = fm ∧ TKl Y stg t r i n)) ∧ (∀ i c, PC i c → (Y 8).2 c 0 = kd → ∃ r, n0 ≤ r ∧ r < t.1 ∧ TKc Y stg t r i c) ∧ (∀ i n, PL i n → (Y 7).2 n 0 = fm → ∃ r, n0 ≤ r ∧ r < t.1 ∧ TKl Y stg t r i n)
def tk5 (t : Tb) (a b c e v : Int32) : Tb := tset 5 (tput 5 t a b c e) (nI t.1) 4 v
theorem tk5_eq {a b c e v : Int32} (h : t.1 < 2147483647) : tk5 t a b c e v = (t.1 + 1, fun i k => if i = t.1 ∧ k = 4 then v else if i = t.1 then (if k < 5 then rw_col a b c e k else 0) else t.2 i k) := by
  unfold tk5 tset
  rw [if_neg (nI_pos (by omega)), nI_clamp (by omega), if_pos ⟨by show t.1 < t.1 + 1; omega, by decide⟩]
  rfl
theorem tk5_1 {a b c e v : Int32} (h : t.1 < 2147483647) : (tk5 t a b c e v).1 = t.1 + 1 := by rw [tk5_eq h]
theorem tk5_o {a b c e v : Int32} {k : Nat} (h : t.1 < 2147483647) (hr : r < t.1) : (tk5 t a b c e v).2 r k = t.2 r k := by
  rw [tk5_eq h]
  show (if r = t.1 ∧ k = 4 then v else if r = t.1 then (if k < 5 then rw_col a b c e k else 0) else t.2 r k) = _
  rw [if_neg (fun z => by omega), if_neg (by omega)]
theorem tk5_n {a b c e v : Int32} (h : t.1 < 2147483647) : (tk5 t a b c e v).2 t.1 0 = a ∧ (tk5 t a b c e v).2 t.1 1 = b ∧ (tk5 t a b c e v).2 t.1 2 = c ∧ (tk5 t a b c e v).2 t.1 3 = e ∧ (tk5 t a b c e v).2 t.1 4 = v := by
  rw [tk5_eq h]
  refine ⟨?_, ?_, ?_, ?_, if_pos ⟨rfl, rfl⟩⟩
  all_goals (refine (if_neg (fun z => absurd z.2 (by decide))).trans ((if_pos rfl).trans ?_); rfl)
theorem TKc.o {a b c' e v : Int32} (h : t.1 < 2147483647) (hr : r < t.1) (q : TKc Y stg t r i c) : TKc Y stg (tk5 t a b c' e v) r i c := by
  unfold TKc at q ⊢
  rw [tk5_o h hr, tk5_o h hr, tk5_o h hr, tk5_o h hr, tk5_o h hr]
  exact q
theorem TKl.o {a b c' e v : Int32} (h : t.1 < 2147483647) (hr : r < t.1) (q : TKl Y stg t r i n) : TKl Y stg (tk5 t a b c' e v) r i n := by
  unfold TKl at q ⊢
  rw [tk5_o h hr, tk5_o h hr, tk5_o h hr, tk5_o h hr, tk5_o h hr]
  exact q
theorem TKS.mono (h : TKS Y kd fm stg n0 t0 t PC PL B) (hc : ∀ i c, PC i c ↔ PC' i c) (hl : ∀ i n, PL i n ↔ PL' i n) (hB : B ≤ B') : TKS Y kd fm stg n0 t0 t PC' PL' B' := by
  obtain ⟨h1, h2, h3, h4, h5⟩ := h
  refine ⟨⟨h1.1, by omega⟩, h2, fun r a b => ?_, fun i c a b => h4 i c ((hc i c).mpr a) b, fun i n a b => h5 i n ((hl i n).mpr a) b⟩
  rcases h3 r a b with ⟨i, c, x, y⟩ | ⟨i, n, x, y⟩
  · exact Or.inl ⟨i, c, (hc i c).mp x, y⟩
  · exact Or.inr ⟨i, n, (hl i n).mp x, y⟩
theorem TKS.nil (hn : n0 = t.1) (ho : ∀ r c, r < n0 → t.2 r c = t0.2 r c) : TKS Y kd fm stg n0 t0 t (fun _ _ => False) (fun _ _ => False) 0 := ⟨⟨by omega, by omega⟩, ho, fun r a b => absurd b (by omega), fun _ _ z => z.elim, fun _ _ z => z.elim⟩
theorem TKS.cl (h : TKS Y kd fm stg n0 t0 t PC PL B) (hk : (Y 8).2 c 0 = kd) (ht : t.1 < 2147483647) : TKS Y kd fm stg n0 t0 (tk5 t ((Y 8).2 c 1) ((Y 8).2 c 2) (nI i) (-1) stg) (fun i' c' => PC i' c' ∨ (i' = i ∧ c' = c)) PL (B + 1) := by
  obtain ⟨h1, h2, h3, h4, h5⟩ := h
  have e1 := tk5_1 (t := t) (a := (Y 8).2 c 1) (b := (Y 8).2 c 2) (c := nI i) (e := -1) (v := stg) ht
  have eN : TKc Y stg (tk5 t ((Y 8).2 c 1) ((Y 8).2 c 2) (nI i) (-1) stg) t.1 i c := tk5_n ht
  refine ⟨by rw [e1]; omega, fun r k hr => by rw [tk5_o ht (by omega)]; exact h2 r k hr, fun r a b => ?_, fun i' c' a b => ?_, fun i' n' a b => ?_⟩
  · rw [e1] at b
    by_cases e : r = t.1
    · rw [e]; exact Or.inl ⟨i, c, Or.inr ⟨rfl, rfl⟩, hk, eN⟩
    · rcases h3 r a (by omega) with ⟨i', c', x, y, y2⟩ | ⟨i', n', x, y, y2⟩
      · exact Or.inl ⟨i', c', Or.inl x, y, y2.o ht (by omega)⟩
      · exact Or.inr ⟨i', n', x, y, y2.o ht (by omega)⟩
  · rw [e1]
    rcases a with a | ⟨a1, a2⟩
    · obtain ⟨r, x, y, w⟩ := h4 i' c' a b
      exact ⟨r, x, by omega, w.o ht y⟩
    · rw [a1, a2]
      exact ⟨t.1, h1.1, by omega, eN⟩
  · rw [e1]
    obtain ⟨r, x, y, w⟩ := h5 i' n' a b
    exact ⟨r, x, by omega, w.o ht y⟩
theorem TKS.li (h : TKS Y kd fm stg n0 t0 t PC PL B) (hk : (Y 7).2 n 0 = fm) (ht : t.1 < 2147483647) : TKS Y kd fm stg n0 t0 (tk5 t ((Y 7).2 n 2) ((Y 7).2 n 3) (nI i) (lvr Y i n) stg) PC (fun i' n' => PL i' n' ∨ (i' = i ∧ n' = n)) (B + 1) := by
  obtain ⟨h1, h2, h3, h4, h5⟩ := h
  have e1 := tk5_1 (t := t) (a := (Y 7).2 n 2) (b := (Y 7).2 n 3) (c := nI i) (e := lvr Y i n) (v := stg) ht
  have eN : TKl Y stg (tk5 t ((Y 7).2 n 2) ((Y 7).2 n 3) (nI i) (lvr Y i n) stg) t.1 i n := tk5_n ht
  refine ⟨by rw [e1]; omega, fun r k hr => by rw [tk5_o ht (by omega)]; exact h2 r k hr, fun r a b => ?_, fun i' c' a b => ?_, fun i' n' a b => ?_⟩
  · rw [e1] at b
    by_cases e : r = t.1
    · rw [e]; exact Or.inr ⟨i, n, Or.inr ⟨rfl, rfl⟩, hk, eN⟩
    · rcases h3 r a (by omega) with ⟨i', c', x, y, y2⟩ | ⟨i', n', x, y, y2⟩
      · exact Or.inl ⟨i', c', x, y, y2.o ht (by omega)⟩
      · exact Or.inr ⟨i', n', Or.inl x, y, y2.o ht (by omega)⟩
  · rw [e1]
    obtain ⟨r, x, y, w⟩ := h4 i' c' a b
    exact ⟨r, x, by omega, w.o ht y⟩
  · rw [e1]
    rcases a with a | ⟨a1, a2⟩
    · obtain ⟨r, x, y, w⟩ := h5 i' n' a b
      exact ⟨r, x, by omega, w.o ht y⟩
    · rw [a1, a2]
      exact ⟨t.1, h1.1, by omega, eN⟩
theorem TKS.nc (h : TKS Y kd fm stg n0 t0 t PC PL B) (hk : ¬ (Y 8).2 c 0 = kd) : TKS Y kd fm stg n0 t0 t (fun i' c' => PC i' c' ∨ (i' = i ∧ c' = c)) PL (B + 1) := by
  obtain ⟨h1, h2, h3, h4, h5⟩ := h
  refine ⟨by omega, h2, fun r a b => ?_, fun i' c' a b => ?_, h5⟩
  · rcases h3 r a b with ⟨i', c', x, y⟩ | z
    · exact Or.inl ⟨i', c', Or.inl x, y⟩
    · exact Or.inr z
  · rcases a with a | ⟨a1, a2⟩
    · exact h4 i' c' a b
    · rw [a2] at b
      exact absurd b hk
theorem TKS.nl (h : TKS Y kd fm stg n0 t0 t PC PL B) (hk : ¬ (Y 7).2 n 0 = fm) : TKS Y kd fm stg n0 t0 t PC (fun i' n' => PL i' n' ∨ (i' = i ∧ n' = n)) (B + 1) := by
  obtain ⟨h1, h2, h3, h4, h5⟩ := h
  refine ⟨by omega, h2, fun r a b => ?_, h4, fun i' c' a b => ?_⟩
  · rcases h3 r a b with z | ⟨i', c', x, y⟩
    · exact Or.inl z
    · exact Or.inr ⟨i', c', Or.inl x, y⟩
  · rcases a with a | ⟨a1, a2⟩
    · exact h5 i' c' a b
    · rw [a2] at b
      exact absurd b hk
/-- how many claims and lines an INSTANCE has -/
def ncl (Y : Ts) (i : Nat) : Nat := (sp Y (im Y i + 1) 5 - sp Y (im Y i) 5) + (sp Y (im Y i + 1) 4 - sp Y (im Y i) 4)
/-- those of the INSTANCES below i -/
def PCi (Y : Ts) (i : Nat) (i' c : Nat) : Prop := i' < i ∧ sp Y (im Y i') 5 ≤ c ∧ c < sp Y (im Y i' + 1) 5
def PLi (Y : Ts) (i : Nat) (i' n : Nat) : Prop := i' < i ∧ sp Y (im Y i') 4 ≤ n ∧ n < sp Y (im Y i' + 1) 4
def PCj (Y : Ts) (i c : Nat) (i' c' : Nat) : Prop := PCi Y i i' c' ∨ (i' = i ∧ sp Y (im Y i) 5 ≤ c' ∧ c' < c)
def PLj (Y : Ts) (i n : Nat) (i' n' : Nat) : Prop := PLi Y i i' n' ∨ (i' = i ∧ sp Y (im Y i) 4 ≤ n' ∧ n' < n)
theorem PCj_0 (i' c : Nat) : PCi Y i i' c ↔ PCj Y i (sp Y (im Y i) 5) i' c := ⟨Or.inl, fun z => z.elim (fun y => y) (fun y => absurd y.2.1 (by omega))⟩
theorem PLj_0 (i' c : Nat) : PLi Y i i' c ↔ PLj Y i (sp Y (im Y i) 4) i' c := ⟨Or.inl, fun z => z.elim (fun y => y) (fun y => absurd y.2.1 (by omega))⟩
theorem PCj_s (h : sp Y (im Y i) 5 ≤ c) (i' c' : Nat) : (PCj Y i c i' c' ∨ (i' = i ∧ c' = c)) ↔ PCj Y i (c + 1) i' c' := by
  unfold PCj
  constructor
  · rintro ((z | ⟨z1, z2, z3⟩) | ⟨z1, z2⟩)
    · exact Or.inl z
    · exact Or.inr ⟨z1, z2, by omega⟩
    · exact Or.inr ⟨z1, by omega, by omega⟩
  · rintro (z | ⟨z1, z2, z3⟩)
    · exact Or.inl (Or.inl z)
    · by_cases e : c' = c
      · exact Or.inr ⟨z1, e⟩
      · exact Or.inl (Or.inr ⟨z1, z2, by omega⟩)
theorem PLj_s (h : sp Y (im Y i) 4 ≤ c) (i' c' : Nat) : (PLj Y i c i' c' ∨ (i' = i ∧ c' = c)) ↔ PLj Y i (c + 1) i' c' := by
  unfold PLj
  constructor
  · rintro ((z | ⟨z1, z2, z3⟩) | ⟨z1, z2⟩)
    · exact Or.inl z
    · exact Or.inr ⟨z1, z2, by omega⟩
    · exact Or.inr ⟨z1, by omega, by omega⟩
  · rintro (z | ⟨z1, z2, z3⟩)
    · exact Or.inl (Or.inl z)
    · by_cases e : c' = c
      · exact Or.inr ⟨z1, e⟩
      · exact Or.inl (Or.inr ⟨z1, z2, by omega⟩)
theorem PCj_e (h : c = sp Y (im Y i + 1) 5) (i' c' : Nat) : PCj Y i c i' c' ↔ PCi Y (i + 1) i' c' := by
  unfold PCj PCi
  constructor
  · rintro (⟨z1, z2⟩ | ⟨z1, z2, z3⟩)
    · exact ⟨by omega, z2⟩
    · rw [z1]
      exact ⟨by omega, z2, by omega⟩
  · rintro ⟨z1, z2⟩
    by_cases e : i' = i
    · rw [e] at z2
      exact Or.inr ⟨e, z2.1, by omega⟩
    · exact Or.inl ⟨by omega, z2⟩
theorem PLj_e (h : c = sp Y (im Y i + 1) 4) (i' c' : Nat) : PLj Y i c i' c' ↔ PLi Y (i + 1) i' c' := by
  unfold PLj PLi
  constructor
  · rintro (⟨z1, z2⟩ | ⟨z1, z2, z3⟩)
    · exact ⟨by omega, z2⟩
    · rw [z1]
      exact ⟨by omega, z2, by omega⟩
  · rintro ⟨z1, z2⟩
    by_cases e : i' = i
    · rw [e] at z2
      exact Or.inr ⟨e, z2.1, by omega⟩
    · exact Or.inl ⟨by omega, z2⟩
theorem slot_x (a b v : Int32) : a - b + (v + b) = a + v := by
  rw [Int32.add_comm v b, ← Int32.add_assoc, Int32.sub_add_cancel]
theorem nI_slot {a b v : Nat} (h : b ≤ v) : nI a - nI b + nI v = nI (a + (v - b)) := by
  obtain ⟨k, rfl⟩ : ∃ k, v = k + b := ⟨v - b, by omega⟩
  rw [Nat.add_sub_cancel, ← nI_add k b, ← nI_add a k]
  exact slot_x _ _ _
variable {H : mu_H} {U : Ud} {m d k : Nat} {C : Nat → Nat}
theorem um_stop5 (h : um m H) (e : ud m H = U) (hj : jv Y U.1) (hm : Cm Y) (hk : k < (Y 1).1) (hY : ∀ j, j < 19 → (Y j).1 ≤ 67108864) : mu_TI (mu_D (d + 2)) 130 [.inr (.inr (some m)), .inl (nI k), .inl (5 : Int32), .inr (.inr (some (m + 17)))] H (fun x H1 => x = nI (sp Y (k + 1) 5) ∧ H1 = H) := by
  have h1b := hY 1 (by decide)
  have hjb := hY 8 (by decide)
  refine mu_meth (M := mu_m130) rfl rfl ?_
  refine mw_ht (mu_fn_of (show [0, 1, 2, 3].Nodup by decide)) ?_
  refine mw_go mu_g130 (k := 3) (f1 := (3, [(0, .inr (.inr (some m))), (1, .inl (nI k)), (2, .inl (5 : Int32)), (3, .inr (.inr (some (m + 17))))], [.inl ((nI k) + (1 : Int32))], H)) (C := []) rfl trivial ?_
  rw [(show ((nI k) + (1 : Int32)) = (nI (k + 1)) from (nI_add k 1))]
  refine mw_go mu_g130 (k := 2) (f1 := (7, [(0, .inr (.inr (some m))), (1, .inl (nI k)), (2, .inl (5 : Int32)), (3, .inr (.inr (some (m + 17))))], [.inr (.inr (mu_r H m 1)), .inl (nI (k + 1))], H)) (C := [mu_is H (some m) 6]) rfl (show mu_is H (some m) 6 from (show mu_is H (some m) 6 from gi_im h.1.1 h.2)) ?_
  rw [(show mu_r H m 1 = some (m + 3) from (gi_mr h.1.1 h.2 (j := 1) (by decide)).trans (congrArg some (by omega)))]
  refine mw_go mu_g130 (k := 1) (f1 := (10, [(0, .inr (.inr (some m))), (1, .inl (nI k)), (2, .inl (5 : Int32)), (3, .inr (.inr (some (m + 17))))], [.inl (mu_i H (m + 3) 2), .inl (nI (k + 1))], H)) (C := [mu_is H (some (m + 3)) 10]) rfl (show mu_is H (some (m + 3)) 10 from ((h.1.1.w (md_w1 h.2)).1)) ?_
  rw [(show mu_i H (m + 3) 2 = (nI (Y 1).1) from (h.size e (j := 1) (by decide) rfl).trans (congrArg (fun z => nI z.1) (show U.1 1 = (Y 1) from (hj.1 1 (by decide)))))]
  refine mw_if (P := (nI (k + 1)) < (nI (Y 1).1)) (a := 13) (b := 27) (fun _ => rfl) trivial (fun h1 => ?_) (fun h1 => ?_)
  · -- 13: (nI (k + 1)) < (nI (Y 1).1)
    have nh1 : (k + 1) < ((Y 1).1) := (nI_ltI (by omega) (by omega)).mp (show nI (k + 1) < nI ((Y 1).1) from h1)
    refine mw_go mu_g130 (k := 2) (f1 := (17, [(0, .inr (.inr (some m))), (1, .inl (nI k)), (2, .inl (5 : Int32)), (3, .inr (.inr (some (m + 17))))], [.inr (.inr (mu_r H m 1))], H)) (C := [mu_is H (some m) 6]) rfl (show mu_is H (some m) 6 from (show mu_is H (some m) 6 from gi_im h.1.1 h.2)) ?_
    rw [(show mu_r H m 1 = some (m + 3) from (gi_mr h.1.1 h.2 (j := 1) (by decide)).trans (congrArg some (by omega)))]
    refine mw_go mu_g130 (k := 3) (f1 := (20, [(0, .inr (.inr (some m))), (1, .inl (nI k)), (2, .inl (5 : Int32)), (3, .inr (.inr (some (m + 17))))], [.inl ((nI k) + (1 : Int32)), .inr (.inr (some (m + 3)))], H)) (C := []) rfl trivial ?_
    rw [(show ((nI k) + (1 : Int32)) = (nI (k + 1)) from (nI_add k 1))]
    refine mw_go mu_g130 (k := 1) (f1 := (21, [(0, .inr (.inr (some m))), (1, .inl (nI k)), (2, .inl (5 : Int32)), (3, .inr (.inr (some (m + 17))))], [.inl (5 : Int32), .inl (nI (k + 1)), .inr (.inr (some (m + 3)))], H)) (C := []) rfl trivial ?_
    refine mw_cIe (fun _ => rfl) (show mu_is H (some (m + 3)) 10 from ((h.1.1.w (md_w1 h.2)).1)) (h.getr (d := d) e (j := 1) (by decide) rfl (nI (k + 1)) (c := 5) (by decide)) ?_
    rw [show (tget (U.1 1) (nI (k + 1)) 5) = (nI (sp Y (k + 1) 5)) from ((congrArg (fun z => tget z (nI (k + 1)) 5) (show U.1 1 = (Y 1) from (hj.1 1 (by decide)))).trans (tget_nI (by omega))).trans (hm (k + 1) (by omega) 5 (by decide) (by decide)).1]
    refine mw_go mu_g130 (k := 1) (f1 := (31, [(0, .inr (.inr (some m))), (1, .inl (nI k)), (2, .inl (5 : Int32)), (3, .inr (.inr (some (m + 17))))], [.inl (nI (sp Y (k + 1) 5))], H)) (C := []) rfl trivial ?_
    exact mw_of (fun _ => mu_ret rfl trivial ⟨(nI (sp Y (k + 1) 5)), H, rfl, (show (nI (sp Y (k + 1) 5)) = nI (sp Y (k + 1) 5) from rfl), rfl⟩)
  · -- 27: not (nI (k + 1)) < (nI (Y 1).1)
    have nh1 : ¬ (k + 1) < ((Y 1).1) := fun z => h1 (show nI (k + 1) < nI ((Y 1).1) from (nI_ltI (by omega) (by omega)).mpr z)
    refine mw_go mu_g130 (k := 2) (f1 := (31, [(0, .inr (.inr (some m))), (1, .inl (nI k)), (2, .inl (5 : Int32)), (3, .inr (.inr (some (m + 17))))], [.inl (mu_i H (m + 17) 2)], H)) (C := [mu_is H (some (m + 17)) 10]) rfl (show mu_is H (some (m + 17)) 10 from ((h.1.1.w (md_w8 h.2)).1)) ?_
    rw [(show mu_i H (m + 17) 2 = (nI (Y 8).1) from (h.size e (j := 8) (by decide) rfl).trans (congrArg (fun z => nI z.1) (show U.1 8 = (Y 8) from (hj.1 8 (by decide)))))]
    exact mw_of (fun _ => mu_ret rfl trivial ⟨(nI (Y 8).1), H, rfl, (show (nI (Y 8).1) = nI (sp Y (k + 1) 5) from congrArg nI (if_neg (by omega)).symm), rfl⟩)
theorem um_stop4 (h : um m H) (e : ud m H = U) (hj : jv Y U.1) (hm : Cm Y) (hk : k < (Y 1).1) (hY : ∀ j, j < 19 → (Y j).1 ≤ 67108864) : mu_TI (mu_D (d + 2)) 130 [.inr (.inr (some m)), .inl (nI k), .inl (4 : Int32), .inr (.inr (some (m + 15)))] H (fun x H1 => x = nI (sp Y (k + 1) 4) ∧ H1 = H) := by
  have h1b := hY 1 (by decide)
  have hjb := hY 7 (by decide)
  refine mu_meth (M := mu_m130) rfl rfl ?_
  refine mw_ht (mu_fn_of (show [0, 1, 2, 3].Nodup by decide)) ?_
  refine mw_go mu_g130 (k := 3) (f1 := (3, [(0, .inr (.inr (some m))), (1, .inl (nI k)), (2, .inl (4 : Int32)), (3, .inr (.inr (some (m + 15))))], [.inl ((nI k) + (1 : Int32))], H)) (C := []) rfl trivial ?_
  rw [(show ((nI k) + (1 : Int32)) = (nI (k + 1)) from (nI_add k 1))]
  refine mw_go mu_g130 (k := 2) (f1 := (7, [(0, .inr (.inr (some m))), (1, .inl (nI k)), (2, .inl (4 : Int32)), (3, .inr (.inr (some (m + 15))))], [.inr (.inr (mu_r H m 1)), .inl (nI (k + 1))], H)) (C := [mu_is H (some m) 6]) rfl (show mu_is H (some m) 6 from (show mu_is H (some m) 6 from gi_im h.1.1 h.2)) ?_
  rw [(show mu_r H m 1 = some (m + 3) from (gi_mr h.1.1 h.2 (j := 1) (by decide)).trans (congrArg some (by omega)))]
  refine mw_go mu_g130 (k := 1) (f1 := (10, [(0, .inr (.inr (some m))), (1, .inl (nI k)), (2, .inl (4 : Int32)), (3, .inr (.inr (some (m + 15))))], [.inl (mu_i H (m + 3) 2), .inl (nI (k + 1))], H)) (C := [mu_is H (some (m + 3)) 10]) rfl (show mu_is H (some (m + 3)) 10 from ((h.1.1.w (md_w1 h.2)).1)) ?_
  rw [(show mu_i H (m + 3) 2 = (nI (Y 1).1) from (h.size e (j := 1) (by decide) rfl).trans (congrArg (fun z => nI z.1) (show U.1 1 = (Y 1) from (hj.1 1 (by decide)))))]
  refine mw_if (P := (nI (k + 1)) < (nI (Y 1).1)) (a := 13) (b := 27) (fun _ => rfl) trivial (fun h1 => ?_) (fun h1 => ?_)
  · -- 13: (nI (k + 1)) < (nI (Y 1).1)
    have nh1 : (k + 1) < ((Y 1).1) := (nI_ltI (by omega) (by omega)).mp (show nI (k + 1) < nI ((Y 1).1) from h1)
    refine mw_go mu_g130 (k := 2) (f1 := (17, [(0, .inr (.inr (some m))), (1, .inl (nI k)), (2, .inl (4 : Int32)), (3, .inr (.inr (some (m + 15))))], [.inr (.inr (mu_r H m 1))], H)) (C := [mu_is H (some m) 6]) rfl (show mu_is H (some m) 6 from (show mu_is H (some m) 6 from gi_im h.1.1 h.2)) ?_
    rw [(show mu_r H m 1 = some (m + 3) from (gi_mr h.1.1 h.2 (j := 1) (by decide)).trans (congrArg some (by omega)))]
    refine mw_go mu_g130 (k := 3) (f1 := (20, [(0, .inr (.inr (some m))), (1, .inl (nI k)), (2, .inl (4 : Int32)), (3, .inr (.inr (some (m + 15))))], [.inl ((nI k) + (1 : Int32)), .inr (.inr (some (m + 3)))], H)) (C := []) rfl trivial ?_
    rw [(show ((nI k) + (1 : Int32)) = (nI (k + 1)) from (nI_add k 1))]
    refine mw_go mu_g130 (k := 1) (f1 := (21, [(0, .inr (.inr (some m))), (1, .inl (nI k)), (2, .inl (4 : Int32)), (3, .inr (.inr (some (m + 15))))], [.inl (4 : Int32), .inl (nI (k + 1)), .inr (.inr (some (m + 3)))], H)) (C := []) rfl trivial ?_
    refine mw_cIe (fun _ => rfl) (show mu_is H (some (m + 3)) 10 from ((h.1.1.w (md_w1 h.2)).1)) (h.getr (d := d) e (j := 1) (by decide) rfl (nI (k + 1)) (c := 4) (by decide)) ?_
    rw [show (tget (U.1 1) (nI (k + 1)) 4) = (nI (sp Y (k + 1) 4)) from ((congrArg (fun z => tget z (nI (k + 1)) 4) (show U.1 1 = (Y 1) from (hj.1 1 (by decide)))).trans (tget_nI (by omega))).trans (hm (k + 1) (by omega) 4 (by decide) (by decide)).1]
    refine mw_go mu_g130 (k := 1) (f1 := (31, [(0, .inr (.inr (some m))), (1, .inl (nI k)), (2, .inl (4 : Int32)), (3, .inr (.inr (some (m + 15))))], [.inl (nI (sp Y (k + 1) 4))], H)) (C := []) rfl trivial ?_
    exact mw_of (fun _ => mu_ret rfl trivial ⟨(nI (sp Y (k + 1) 4)), H, rfl, (show (nI (sp Y (k + 1) 4)) = nI (sp Y (k + 1) 4) from rfl), rfl⟩)
  · -- 27: not (nI (k + 1)) < (nI (Y 1).1)
    have nh1 : ¬ (k + 1) < ((Y 1).1) := fun z => h1 (show nI (k + 1) < nI ((Y 1).1) from (nI_ltI (by omega) (by omega)).mpr z)
    refine mw_go mu_g130 (k := 2) (f1 := (31, [(0, .inr (.inr (some m))), (1, .inl (nI k)), (2, .inl (4 : Int32)), (3, .inr (.inr (some (m + 15))))], [.inl (mu_i H (m + 15) 2)], H)) (C := [mu_is H (some (m + 15)) 10]) rfl (show mu_is H (some (m + 15)) 10 from ((h.1.1.w (md_w7 h.2)).1)) ?_
    rw [(show mu_i H (m + 15) 2 = (nI (Y 7).1) from (h.size e (j := 7) (by decide) rfl).trans (congrArg (fun z => nI z.1) (show U.1 7 = (Y 7) from (hj.1 7 (by decide)))))]
    exact mw_of (fun _ => mu_ret rfl trivial ⟨(nI (Y 7).1), H, rfl, (show (nI (Y 7).1) = nI (sp Y (k + 1) 4) from congrArg nI (if_neg (by omega)).symm), rfl⟩)
def F129 : Uf := ⟨[23], [], [], [], [], false⟩
def F129a : Uf := ⟨[23], [], [], [], [], false⟩
def F129b : Uf := ⟨[23], [], [], [], [], false⟩
def F129c : Uf := ⟨[23], [], [], [], [], false⟩
/-- PathProver$Model.collect(IIILPathProver$Rows;)V -/
abbrev mu_m129 : ev_M := (11, none, [], ev_b129)
theorem mu_g129 : mu_good mu_m129 := mu_goodk ev_k129
theorem md_collect (h : um m H) (e : ud m H = U) (hj : jv Y U.1) (hJ : JW Y) (hLV : ∀ q, q < (Y 1).1 → ∀ n, sp Y q 4 ≤ n → n < sp Y (q + 1) 4 → LV Y q n) (hn0 : n0 = (U.1 23).1) (hC1 : 10 * (n0 + sm (ncl Y) 0 (Y 11).1) + 15 ≤ C 23) (hC2 : C 23 ≤ 8388608) : mu_TV (mu_D (d + 4)) 129 [.inr (.inr (some m)), .inl kd, .inl fm, .inl stg, .inr (.inr (some 118))] H (fun H1 => um m H1 ∧ ur m C H H1 ∧ uq F129 U (ud m H1) ∧ TKS Y kd fm stg n0 (U.1 23) ((ud m H1).1 23) (PCi Y (Y 11).1) (PLi Y (Y 11).1) (sm (ncl Y) 0 (Y 11).1)) := by
  have hB11 := hJ.2.2.2.2.2.2 11 (by decide)
  refine mu_meth (M := mu_m129) rfl rfl ?_
  refine mw_ht (mu_fn_of (show [0, 1, 2, 3, 4].Nodup by decide)) ?_
  refine mw_go mu_g129 (k := 2) (f1 := (3, [(5, .inl (0 : Int32)), (0, .inr (.inr (some m))), (1, .inl kd), (2, .inl fm), (3, .inl stg), (4, .inr (.inr (some 118)))], [], H)) (C := []) rfl trivial ?_
  show mu_W _ _ (3, [(5, .inl (nI 0)), (0, .inr (.inr (some m))), (1, .inl kd), (2, .inl fm), (3, .inl stg), (4, .inr (.inr (some 118)))], [], H) _
  refine mw_sub (L' := [(5, .inl (nI 0)), (0, .inr (.inr (some m))), (1, .inl kd), (2, .inl fm), (3, .inl stg), (4, .inr (.inr (some 118)))]) (by simp) ?_
  refine mw_down (α := Nat × mu_H) (fun zs => (3, [(5, .inl (nI zs.1)), (0, .inr (.inr (some m))), (1, .inl kd), (2, .inl fm), (3, .inl stg), (4, .inr (.inr (some 118)))], [], zs.2)) (fun zs => (Y 11).1 - zs.1) (fun zs => um m zs.2 ∧ ur m C H zs.2 ∧ (uq F129a U (ud m zs.2)) ∧ (zs.1 ≤ (Y 11).1) ∧ (TKS Y kd fm stg n0 (U.1 23) ((ud m zs.2).1 23) (PCi Y zs.1) (PLi Y zs.1) (sm (ncl Y) 0 zs.1))) (fun zs hza iha => ?_) (0, H) ⟨h, (ur.refl m C H), (show uq F129a U (ud m H) from by rw [e]; exact uq.refl _ _), (show 0 ≤ (Y 11).1 from (by omega)), (show TKS Y kd fm stg n0 (U.1 23) ((ud m H).1 23) (PCi Y 0) (PLi Y 0) (sm (ncl Y) 0 0) from by rw [e]; exact ((TKS.nil hn0 (fun _ _ _ => rfl)).mono (fun i' c' => ⟨fun z => z.elim, fun z => absurd z.1 (Nat.not_lt_zero _)⟩) (fun i' c' => ⟨fun z => z.elim, fun z => absurd z.1 (Nat.not_lt_zero _)⟩) (Nat.le_refl _)))⟩
  obtain ⟨i, Hsa⟩ := zs
  obtain ⟨ua, hta, da, hi, hTa⟩ := hza
  have ua : um m Hsa := ua
  have hta : ur m C H Hsa := hta
  have zza : uq F129a U (ud m Hsa) := da
  have hi : i ≤ (Y 11).1 := hi
  have hTa : TKS Y kd fm stg n0 (U.1 23) ((ud m Hsa).1 23) (PCi Y i) (PLi Y i) (sm (ncl Y) 0 i) := hTa
  obtain ⟨Va, da⟩ : ∃ V, ud m Hsa = V := ⟨_, rfl⟩
  rw [da] at zza hTa
  have qfa : uq F129 U Va := (uq.refl F129 U).tr zza rfl
  show mu_W _ _ (3, [(5, .inl (nI i)), (0, .inr (.inr (some m))), (1, .inl kd), (2, .inl fm), (3, .inl stg), (4, .inr (.inr (some 118)))], [], Hsa) _
  refine mw_go mu_g129 (k := 3) (f1 := (9, [(5, .inl (nI i)), (0, .inr (.inr (some m))), (1, .inl kd), (2, .inl fm), (3, .inl stg), (4, .inr (.inr (some 118)))], [.inr (.inr (mu_r Hsa m 11)), .inl (nI i)], Hsa)) (C := [mu_is Hsa (some m) 6]) rfl (show mu_is Hsa (some m) 6 from (show mu_is Hsa (some m) 6 from gi_im ua.1.1 ua.2)) ?_
  rw [(show mu_r Hsa m 11 = some (m + 23) from (gi_mr ua.1.1 ua.2 (j := 11) (by decide)).trans (congrArg some (by omega)))]
  refine mw_go mu_g129 (k := 1) (f1 := (12, [(5, .inl (nI i)), (0, .inr (.inr (some m))), (1, .inl kd), (2, .inl fm), (3, .inl stg), (4, .inr (.inr (some 118)))], [.inl (mu_i Hsa (m + 23) 2), .inl (nI i)], Hsa)) (C := [mu_is Hsa (some (m + 23)) 10]) rfl (show mu_is Hsa (some (m + 23)) 10 from ((ua.1.1.w (md_w11 ua.2)).1)) ?_
  rw [(show mu_i Hsa (m + 23) 2 = (nI (Y 11).1) from (ua.size da (j := 11) (by decide) rfl).trans (congrArg nI ((congrArg Prod.fst (show Va.1 11 = (U.1 11) from (zza.t 11 rfl))).trans (congrArg Prod.fst (hj.1 11 (by decide))))))]
  refine mw_if (P := (nI i) < (nI (Y 11).1)) (a := 15) (b := 254) (fun _ => rfl) trivial (fun h1 => ?_) (fun h1 => ?_)
  · -- 15: (nI i) < (nI (Y 11).1)
    have nh1 : i < ((Y 11).1) := (nI_ltI (by omega) (by omega)).mp (show nI i < nI ((Y 11).1) from h1)
    have hgi := hJ.1 i (by omega)
    have him := hgi.2.1
    have hsp4 := (hJ.2.2.2.2.2.1.1 (im Y i) him 4 (by decide) (by decide)).2
    have hsp5 := (hJ.2.2.2.2.2.1.1 (im Y i) him 5 (by decide) (by decide)).2
    have hB5 := hJ.2.2.2.2.2.2 8 (by decide)
    have hB4 := hJ.2.2.2.2.2.2 7 (by decide)
    have hB2 := hJ.2.2.2.2.2.2 3 (by decide)
    have hB1 := hJ.2.2.2.2.2.2 1 (by decide)
    have hB12 := hJ.2.2.2.2.2.2 12 (by decide)
    have t5 : tabc 5 = 8 := rfl
    have t4 : tabc 4 = 7 := rfl
    rw [t5] at hsp5
    rw [t4] at hsp4
    have hsm : sm (ncl Y) 0 (i + 1) = sm (ncl Y) 0 i + ncl Y i := sm_last (fun _ _ => rfl)
    have hsl := sm_le_add (f := ncl Y) (a := 0) (i + 1) ((Y 11).1 - (i + 1))
    rw [show i + 1 + ((Y 11).1 - (i + 1)) = (Y 11).1 by omega] at hsl
    have hnc : ncl Y i = (sp Y (im Y i + 1) 5 - sp Y (im Y i) 5) + (sp Y (im Y i + 1) 4 - sp Y (im Y i) 4) := rfl
    refine mw_go mu_g129 (k := 2) (f1 := (19, [(5, .inl (nI i)), (0, .inr (.inr (some m))), (1, .inl kd), (2, .inl fm), (3, .inl stg), (4, .inr (.inr (some 118)))], [.inr (.inr (mu_r Hsa m 11))], Hsa)) (C := [mu_is Hsa (some m) 6]) rfl (show mu_is Hsa (some m) 6 from (show mu_is Hsa (some m) 6 from gi_im ua.1.1 ua.2)) ?_
    rw [(show mu_r Hsa m 11 = some (m + 23) from (gi_mr ua.1.1 ua.2 (j := 11) (by decide)).trans (congrArg some (by omega)))]
    refine mw_go mu_g129 (k := 2) (f1 := (22, [(5, .inl (nI i)), (0, .inr (.inr (some m))), (1, .inl kd), (2, .inl fm), (3, .inl stg), (4, .inr (.inr (some 118)))], [.inl (0 : Int32), .inl (nI i), .inr (.inr (some (m + 23)))], Hsa)) (C := []) rfl trivial ?_
    refine mw_cIe (fun _ => rfl) (show mu_is Hsa (some (m + 23)) 10 from ((ua.1.1.w (md_w11 ua.2)).1)) (ua.getr (d := (d + 2)) da (j := 11) (by decide) rfl (nI i) (c := 0) (by decide)) ?_
    rw [show (tget (Va.1 11) (nI i) 0) = (nI (im Y i)) from ((congrArg (fun z => tget z (nI i) 0) (show Va.1 11 = (U.1 11) from (zza.t 11 rfl))).trans (tget_nI (by omega))).trans ((congrArg (fun z => z.2 i 0) (hj.1 11 (by decide))).trans hgi.1.1)]
    refine mw_go mu_g129 (k := 3) (f1 := (31, [(6, .inl (nI (im Y i))), (5, .inl (nI i)), (0, .inr (.inr (some m))), (1, .inl kd), (2, .inl fm), (3, .inl stg), (4, .inr (.inr (some 118)))], [.inr (.inr (mu_r Hsa m 1))], Hsa)) (C := [mu_is Hsa (some m) 6]) rfl (show mu_is Hsa (some m) 6 from (show mu_is Hsa (some m) 6 from gi_im ua.1.1 ua.2)) ?_
    rw [(show mu_r Hsa m 1 = some (m + 3) from (gi_mr ua.1.1 ua.2 (j := 1) (by decide)).trans (congrArg some (by omega)))]
    refine mw_go mu_g129 (k := 2) (f1 := (34, [(6, .inl (nI (im Y i))), (5, .inl (nI i)), (0, .inr (.inr (some m))), (1, .inl kd), (2, .inl fm), (3, .inl stg), (4, .inr (.inr (some 118)))], [.inl (5 : Int32), .inl (nI (im Y i)), .inr (.inr (some (m + 3)))], Hsa)) (C := []) rfl trivial ?_
    refine mw_cIe (fun _ => rfl) (show mu_is Hsa (some (m + 3)) 10 from ((ua.1.1.w (md_w1 ua.2)).1)) (ua.getr (d := (d + 2)) da (j := 1) (by decide) rfl (nI (im Y i)) (c := 5) (by decide)) ?_
    rw [show (tget (Va.1 1) (nI (im Y i)) 5) = (nI (sp Y (im Y i) 5)) from ((congrArg (fun z => tget z (nI (im Y i)) 5) (show Va.1 1 = (U.1 1) from (zza.t 1 rfl))).trans (tget_nI (by omega))).trans ((congrArg (fun z => z.2 (im Y i) 5) (hj.1 1 (by decide))).trans (hJ.2.2.2.2.2.1.1 (im Y i) him 5 (by decide) (by decide)).1)]
    refine mw_go mu_g129 (k := 1) (f1 := (39, [(7, .inl (nI (sp Y (im Y i) 5))), (6, .inl (nI (im Y i))), (5, .inl (nI i)), (0, .inr (.inr (some m))), (1, .inl kd), (2, .inl fm), (3, .inl stg), (4, .inr (.inr (some 118)))], [], Hsa)) (C := []) rfl trivial ?_
    refine mw_sub (L' := [(7, .inl (nI (sp Y (im Y i) 5))), (0, .inr (.inr (some m))), (1, .inl kd), (2, .inl fm), (3, .inl stg), (4, .inr (.inr (some 118))), (5, .inl (nI i)), (6, .inl (nI (im Y i)))]) (by simp) ?_
    refine mw_down (α := Nat × mu_H) (fun zs => (39, [(7, .inl (nI zs.1)), (0, .inr (.inr (some m))), (1, .inl kd), (2, .inl fm), (3, .inl stg), (4, .inr (.inr (some 118))), (5, .inl (nI i)), (6, .inl (nI (im Y i)))], [], zs.2)) (fun zs => sp Y (im Y i + 1) 5 - zs.1) (fun zs => um m zs.2 ∧ ur m C H zs.2 ∧ (uq F129b Va (ud m zs.2)) ∧ (sp Y (im Y i) 5 ≤ zs.1 ∧ zs.1 ≤ sp Y (im Y i + 1) 5) ∧ (TKS Y kd fm stg n0 (U.1 23) ((ud m zs.2).1 23) (PCj Y i zs.1) (PLi Y i) (sm (ncl Y) 0 i + (zs.1 - sp Y (im Y i) 5)))) (fun zs hzb ihb => ?_) (sp Y (im Y i) 5, Hsa) ⟨ua, hta, (show uq F129b Va (ud m Hsa) from by rw [da]; exact uq.refl _ _), (show sp Y (im Y i) 5 ≤ (sp Y (im Y i) 5) ∧ (sp Y (im Y i) 5) ≤ sp Y (im Y i + 1) 5 from (by omega)), (show TKS Y kd fm stg n0 (U.1 23) ((ud m Hsa).1 23) (PCj Y i (sp Y (im Y i) 5)) (PLi Y i) (sm (ncl Y) 0 i + ((sp Y (im Y i) 5) - sp Y (im Y i) 5)) from by rw [da]; exact (hTa.mono PCj_0 (fun _ _ => Iff.rfl) (by omega)))⟩
    obtain ⟨c, Hsb⟩ := zs
    obtain ⟨ub, htb, db, hc, hTb⟩ := hzb
    have ub : um m Hsb := ub
    have htb : ur m C H Hsb := htb
    have zzb : uq F129b Va (ud m Hsb) := db
    have hc : sp Y (im Y i) 5 ≤ c ∧ c ≤ sp Y (im Y i + 1) 5 := hc
    have hTb : TKS Y kd fm stg n0 (U.1 23) ((ud m Hsb).1 23) (PCj Y i c) (PLi Y i) (sm (ncl Y) 0 i + (c - sp Y (im Y i) 5)) := hTb
    obtain ⟨Vb, db⟩ : ∃ V, ud m Hsb = V := ⟨_, rfl⟩
    rw [db] at zzb hTb
    have qfb : uq F129 U Vb := qfa.tr zzb rfl
    show mu_W _ _ (39, [(7, .inl (nI c)), (0, .inr (.inr (some m))), (1, .inl kd), (2, .inl fm), (3, .inl stg), (4, .inr (.inr (some 118))), (5, .inl (nI i)), (6, .inl (nI (im Y i)))], [], Hsb) _
    refine mw_go mu_g129 (k := 6) (f1 := (49, [(7, .inl (nI c)), (0, .inr (.inr (some m))), (1, .inl kd), (2, .inl fm), (3, .inl stg), (4, .inr (.inr (some 118))), (5, .inl (nI i)), (6, .inl (nI (im Y i)))], [.inr (.inr (mu_r Hsb m 8)), .inl (5 : Int32), .inl (nI (im Y i)), .inr (.inr (some m)), .inl (nI c)], Hsb)) (C := [mu_is Hsb (some m) 6]) rfl (show mu_is Hsb (some m) 6 from (show mu_is Hsb (some m) 6 from gi_im ub.1.1 ub.2)) ?_
    rw [(show mu_r Hsb m 8 = some (m + 17) from (gi_mr ub.1.1 ub.2 (j := 8) (by decide)).trans (congrArg some (by omega)))]
    refine mw_cIe (fun _ => rfl) (show mu_is Hsb (some m) 6 from (show mu_is Hsb (some m) 6 from gi_im ub.1.1 ub.2)) (um_stop5 (d := (d + 1)) (k := im Y i) ub db (jv_to hj (show (Vb.1 0) = (U.1 0) from ((zzb.t 0 rfl).trans (zza.t 0 rfl))) (show (Vb.1 1) = (U.1 1) from ((zzb.t 1 rfl).trans (zza.t 1 rfl))) (show (Vb.1 2) = (U.1 2) from ((zzb.t 2 rfl).trans (zza.t 2 rfl))) (show (Vb.1 3) = (U.1 3) from ((zzb.t 3 rfl).trans (zza.t 3 rfl))) (show (Vb.1 4) = (U.1 4) from ((zzb.t 4 rfl).trans (zza.t 4 rfl))) (show (Vb.1 5) = (U.1 5) from ((zzb.t 5 rfl).trans (zza.t 5 rfl))) (show (Vb.1 6) = (U.1 6) from ((zzb.t 6 rfl).trans (zza.t 6 rfl))) (show (Vb.1 7) = (U.1 7) from ((zzb.t 7 rfl).trans (zza.t 7 rfl))) (show (Vb.1 8) = (U.1 8) from ((zzb.t 8 rfl).trans (zza.t 8 rfl))) (show (Vb.1 9) = (U.1 9) from ((zzb.t 9 rfl).trans (zza.t 9 rfl))) (show (Vb.1 10) = (U.1 10) from ((zzb.t 10 rfl).trans (zza.t 10 rfl))) (show (Vb.1 11) = (U.1 11) from ((zzb.t 11 rfl).trans (zza.t 11 rfl))) (show (Vb.1 12) = (U.1 12) from ((zzb.t 12 rfl).trans (zza.t 12 rfl))) (show (Vb.1 13) = (U.1 13) from ((zzb.t 13 rfl).trans (zza.t 13 rfl))) (show (Vb.1 15) = (U.1 15) from ((zzb.t 15 rfl).trans (zza.t 15 rfl))) (show (Vb.1 16) = (U.1 16) from ((zzb.t 16 rfl).trans (zza.t 16 rfl))) (show (Vb.1 17) = (U.1 17) from ((zzb.t 17 rfl).trans (zza.t 17 rfl)))) hJ.2.2.2.2.2.1.1 him hJ.2.2.2.2.2.2) ?_
    refine mw_if (P := (nI c) < (nI (sp Y (im Y i + 1) 5))) (a := 55) (b := 114) (fun _ => rfl) trivial (fun h5 => ?_) (fun h5 => ?_)
    · -- 55: (nI c) < (nI (sp Y (im Y i + 1) 5))
      have nh5 : c < (sp Y (im Y i + 1) 5) := (nI_ltI (by omega) (by omega)).mp (show nI c < nI (sp Y (im Y i + 1) 5) from h5)
      refine mw_go mu_g129 (k := 2) (f1 := (59, [(7, .inl (nI c)), (0, .inr (.inr (some m))), (1, .inl kd), (2, .inl fm), (3, .inl stg), (4, .inr (.inr (some 118))), (5, .inl (nI i)), (6, .inl (nI (im Y i)))], [.inr (.inr (mu_r Hsb m 8))], Hsb)) (C := [mu_is Hsb (some m) 6]) rfl (show mu_is Hsb (some m) 6 from (show mu_is Hsb (some m) 6 from gi_im ub.1.1 ub.2)) ?_
      rw [(show mu_r Hsb m 8 = some (m + 17) from (gi_mr ub.1.1 ub.2 (j := 8) (by decide)).trans (congrArg some (by omega)))]
      refine mw_go mu_g129 (k := 2) (f1 := (62, [(7, .inl (nI c)), (0, .inr (.inr (some m))), (1, .inl kd), (2, .inl fm), (3, .inl stg), (4, .inr (.inr (some 118))), (5, .inl (nI i)), (6, .inl (nI (im Y i)))], [.inl (0 : Int32), .inl (nI c), .inr (.inr (some (m + 17)))], Hsb)) (C := []) rfl trivial ?_
      refine mw_cIe (fun _ => rfl) (show mu_is Hsb (some (m + 17)) 10 from ((ub.1.1.w (md_w8 ub.2)).1)) (ub.getr (d := (d + 2)) db (j := 8) (by decide) rfl (nI c) (c := 0) (by decide)) ?_
      rw [show (tget (Vb.1 8) (nI c) 0) = ((Y 8).2 c 0) from ((congrArg (fun z => tget z (nI c) 0) (show Vb.1 8 = (U.1 8) from ((zzb.t 8 rfl).trans (zza.t 8 rfl)))).trans (tget_nI (by omega))).trans (congrArg (fun z => z.2 c 0) (hj.1 8 (by decide)))]
      refine mw_go mu_g129 (k := 1) (f1 := (66, [(7, .inl (nI c)), (0, .inr (.inr (some m))), (1, .inl kd), (2, .inl fm), (3, .inl stg), (4, .inr (.inr (some 118))), (5, .inl (nI i)), (6, .inl (nI (im Y i)))], [.inl kd, .inl ((Y 8).2 c 0)], Hsb)) (C := []) rfl trivial ?_
      refine mw_if (P := ((Y 8).2 c 0) = kd) (a := 69) (b := 108) (fun _ => rfl) trivial (fun h7 => ?_) (fun h7 => ?_)
      · -- 69: ((Y 8).2 c 0) = kd
        refine mw_go mu_g129 (k := 3) (f1 := (75, [(7, .inl (nI c)), (0, .inr (.inr (some m))), (1, .inl kd), (2, .inl fm), (3, .inl stg), (4, .inr (.inr (some 118))), (5, .inl (nI i)), (6, .inl (nI (im Y i)))], [.inr (.inr (mu_r Hsb m 8)), .inr (.inr (some 118))], Hsb)) (C := [mu_is Hsb (some m) 6]) rfl (show mu_is Hsb (some m) 6 from (show mu_is Hsb (some m) 6 from gi_im ub.1.1 ub.2)) ?_
        rw [(show mu_r Hsb m 8 = some (m + 17) from (gi_mr ub.1.1 ub.2 (j := 8) (by decide)).trans (congrArg some (by omega)))]
        refine mw_go mu_g129 (k := 2) (f1 := (78, [(7, .inl (nI c)), (0, .inr (.inr (some m))), (1, .inl kd), (2, .inl fm), (3, .inl stg), (4, .inr (.inr (some 118))), (5, .inl (nI i)), (6, .inl (nI (im Y i)))], [.inl (1 : Int32), .inl (nI c), .inr (.inr (some (m + 17))), .inr (.inr (some 118))], Hsb)) (C := []) rfl trivial ?_
        refine mw_cIe (fun _ => rfl) (show mu_is Hsb (some (m + 17)) 10 from ((ub.1.1.w (md_w8 ub.2)).1)) (ub.getr (d := (d + 2)) db (j := 8) (by decide) rfl (nI c) (c := 1) (by decide)) ?_
        rw [show (tget (Vb.1 8) (nI c) 1) = ((Y 8).2 c 1) from ((congrArg (fun z => tget z (nI c) 1) (show Vb.1 8 = (U.1 8) from ((zzb.t 8 rfl).trans (zza.t 8 rfl)))).trans (tget_nI (by omega))).trans (congrArg (fun z => z.2 c 1) (hj.1 8 (by decide)))]
        refine mw_go mu_g129 (k := 2) (f1 := (85, [(7, .inl (nI c)), (0, .inr (.inr (some m))), (1, .inl kd), (2, .inl fm), (3, .inl stg), (4, .inr (.inr (some 118))), (5, .inl (nI i)), (6, .inl (nI (im Y i)))], [.inr (.inr (mu_r Hsb m 8)), .inl ((Y 8).2 c 1), .inr (.inr (some 118))], Hsb)) (C := [mu_is Hsb (some m) 6]) rfl (show mu_is Hsb (some m) 6 from (show mu_is Hsb (some m) 6 from gi_im ub.1.1 ub.2)) ?_
        rw [(show mu_r Hsb m 8 = some (m + 17) from (gi_mr ub.1.1 ub.2 (j := 8) (by decide)).trans (congrArg some (by omega)))]
        refine mw_go mu_g129 (k := 2) (f1 := (88, [(7, .inl (nI c)), (0, .inr (.inr (some m))), (1, .inl kd), (2, .inl fm), (3, .inl stg), (4, .inr (.inr (some 118))), (5, .inl (nI i)), (6, .inl (nI (im Y i)))], [.inl (2 : Int32), .inl (nI c), .inr (.inr (some (m + 17))), .inl ((Y 8).2 c 1), .inr (.inr (some 118))], Hsb)) (C := []) rfl trivial ?_
        refine mw_cIe (fun _ => rfl) (show mu_is Hsb (some (m + 17)) 10 from ((ub.1.1.w (md_w8 ub.2)).1)) (ub.getr (d := (d + 2)) db (j := 8) (by decide) rfl (nI c) (c := 2) (by decide)) ?_
        rw [show (tget (Vb.1 8) (nI c) 2) = ((Y 8).2 c 2) from ((congrArg (fun z => tget z (nI c) 2) (show Vb.1 8 = (U.1 8) from ((zzb.t 8 rfl).trans (zza.t 8 rfl)))).trans (tget_nI (by omega))).trans (congrArg (fun z => z.2 c 2) (hj.1 8 (by decide)))]
        refine mw_go mu_g129 (k := 2) (f1 := (94, [(7, .inl (nI c)), (0, .inr (.inr (some m))), (1, .inl kd), (2, .inl fm), (3, .inl stg), (4, .inr (.inr (some 118))), (5, .inl (nI i)), (6, .inl (nI (im Y i)))], [.inl (-1 : Int32), .inl (nI i), .inl ((Y 8).2 c 2), .inl ((Y 8).2 c 1), .inr (.inr (some 118))], Hsb)) (C := []) rfl trivial ?_
        refine mw_cI (fun _ => rfl) (show mu_is Hsb (some 118) 10 from (ub.1.1.is rfl)) (ub.putr (C := C) (d := d) db (j := 23) (Or.inr ⟨by decide, by decide⟩) rfl ((Y 8).2 c 1) ((Y 8).2 c 2) (nI i) (-1 : Int32) (by show 2 * (((Vb.1 23).1 + 1) * 5) + 5 ≤ C 23; have z1 := hTb.1.2; omega) hC2) (fun x10 Q10 q10 => ?_)
        obtain ⟨rfl, u10, r10, d10⟩ := q10
        have ht10 : ur m C H Q10 := htb.trans r10
        have qf10 : uq F129 U (upT Vb (ap 23 Vb.1 ((Y 8).2 c 1) ((Y 8).2 c 2) (nI i) (-1 : Int32))) := qfb.ap rfl
        refine mw_go mu_g129 (k := 5) (f1 := (105, [(8, .inl (nI (Vb.1 23).1)), (7, .inl (nI c)), (0, .inr (.inr (some m))), (1, .inl kd), (2, .inl fm), (3, .inl stg), (4, .inr (.inr (some 118))), (5, .inl (nI i)), (6, .inl (nI (im Y i)))], [.inl stg, .inl (4 : Int32), .inl (nI (Vb.1 23).1), .inr (.inr (some 118))], Q10)) (C := []) rfl trivial ?_
        refine mw_cV (fun _ => rfl) (show mu_is Q10 (some 118) 10 from (u10.1.1.is rfl)) (u10.setr (C := C) (d := (d + 2)) d10 (j := 23) (Or.inr ⟨by decide, by decide⟩) rfl (nI (Vb.1 23).1) stg (c := 4) (by decide)) (fun Q11 q11 => ?_)
        obtain ⟨u11, r11, d11⟩ := q11
        have ht11 : ur m C H Q11 := ht10.trans r11
        have qf11 : uq F129 U (upT (upT Vb (ap 23 Vb.1 ((Y 8).2 c 1) ((Y 8).2 c 2) (nI i) (-1 : Int32))) (ax 23 (upT Vb (ap 23 Vb.1 ((Y 8).2 c 1) ((Y 8).2 c 2) (nI i) (-1 : Int32))).1 (nI (Vb.1 23).1) 4 stg)) := qf10.ax rfl
        refine mw_go mu_g129 (k := 1) (f1 := (111, [(7, .inl ((nI c) + 1)), (8, .inl (nI (Vb.1 23).1)), (0, .inr (.inr (some m))), (1, .inl kd), (2, .inl fm), (3, .inl stg), (4, .inr (.inr (some 118))), (5, .inl (nI i)), (6, .inl (nI (im Y i)))], [], Q11)) (C := []) rfl trivial ?_
        rw [(show ((nI c) + 1) = (nI (c + 1)) from (nI_add c 1))]
        refine mw_go mu_g129 (k := 1) (f1 := (39, [(7, .inl (nI (c + 1))), (8, .inl (nI (Vb.1 23).1)), (0, .inr (.inr (some m))), (1, .inl kd), (2, .inl fm), (3, .inl stg), (4, .inr (.inr (some 118))), (5, .inl (nI i)), (6, .inl (nI (im Y i)))], [], Q11)) (C := []) rfl trivial ?_
        exact mw_sub (by simp) (ihb (c + 1, Q11) ⟨u11, ht11, (show uq F129b Va (ud m Q11) from by rw [d11]; exact ((zzb.T (fun q hq => by first | exact ax_ne (in1_ne rfl hq) | exact ap_ne (in1_ne rfl hq) | exact fu_ne _ _ (in1_ne rfl hq))).T (fun q hq => by first | exact ax_ne (in1_ne rfl hq) | exact ap_ne (in1_ne rfl hq) | exact fu_ne _ _ (in1_ne rfl hq)))), (show sp Y (im Y i) 5 ≤ (c + 1) ∧ (c + 1) ≤ sp Y (im Y i + 1) 5 from (by omega)), (show TKS Y kd fm stg n0 (U.1 23) ((ud m Q11).1 23) (PCj Y i (c + 1)) (PLi Y i) (sm (ncl Y) 0 i + ((c + 1) - sp Y (im Y i) 5)) from by rw [d11]; exact ((TKS.cl (i := i) hTb h7 (by have z1 := hTb.1.2; omega)).mono (PCj_s (by omega)) (fun _ _ => Iff.rfl) (by omega)))⟩ (by show sp Y (im Y i + 1) 5 - (c + 1) < sp Y (im Y i + 1) 5 - c; omega))
      · -- 108: not ((Y 8).2 c 0) = kd
        refine mw_go mu_g129 (k := 1) (f1 := (111, [(7, .inl ((nI c) + 1)), (0, .inr (.inr (some m))), (1, .inl kd), (2, .inl fm), (3, .inl stg), (4, .inr (.inr (some 118))), (5, .inl (nI i)), (6, .inl (nI (im Y i)))], [], Hsb)) (C := []) rfl trivial ?_
        rw [(show ((nI c) + 1) = (nI (c + 1)) from (nI_add c 1))]
        refine mw_go mu_g129 (k := 1) (f1 := (39, [(7, .inl (nI (c + 1))), (0, .inr (.inr (some m))), (1, .inl kd), (2, .inl fm), (3, .inl stg), (4, .inr (.inr (some 118))), (5, .inl (nI i)), (6, .inl (nI (im Y i)))], [], Hsb)) (C := []) rfl trivial ?_
        exact mw_sub (by simp) (ihb (c + 1, Hsb) ⟨ub, htb, (show uq F129b Va (ud m Hsb) from by rw [db]; exact zzb), (show sp Y (im Y i) 5 ≤ (c + 1) ∧ (c + 1) ≤ sp Y (im Y i + 1) 5 from (by omega)), (show TKS Y kd fm stg n0 (U.1 23) ((ud m Hsb).1 23) (PCj Y i (c + 1)) (PLi Y i) (sm (ncl Y) 0 i + ((c + 1) - sp Y (im Y i) 5)) from by rw [db]; exact ((TKS.nc (i := i) hTb h7).mono (PCj_s (by omega)) (fun _ _ => Iff.rfl) (by omega)))⟩ (by show sp Y (im Y i + 1) 5 - (c + 1) < sp Y (im Y i + 1) 5 - c; omega))
    · -- 114: not (nI c) < (nI (sp Y (im Y i + 1) 5))
      have nh5 : ¬ c < (sp Y (im Y i + 1) 5) := fun z => h5 (show nI c < nI (sp Y (im Y i + 1) 5) from (nI_ltI (by omega) (by omega)).mpr z)
      refine mw_go mu_g129 (k := 2) (f1 := (118, [(7, .inl (nI c)), (0, .inr (.inr (some m))), (1, .inl kd), (2, .inl fm), (3, .inl stg), (4, .inr (.inr (some 118))), (5, .inl (nI i)), (6, .inl (nI (im Y i)))], [.inr (.inr (mu_r Hsb m 11))], Hsb)) (C := [mu_is Hsb (some m) 6]) rfl (show mu_is Hsb (some m) 6 from (show mu_is Hsb (some m) 6 from gi_im ub.1.1 ub.2)) ?_
      rw [(show mu_r Hsb m 11 = some (m + 23) from (gi_mr ub.1.1 ub.2 (j := 11) (by decide)).trans (congrArg some (by omega)))]
      refine mw_go mu_g129 (k := 2) (f1 := (121, [(7, .inl (nI c)), (0, .inr (.inr (some m))), (1, .inl kd), (2, .inl fm), (3, .inl stg), (4, .inr (.inr (some 118))), (5, .inl (nI i)), (6, .inl (nI (im Y i)))], [.inl (1 : Int32), .inl (nI i), .inr (.inr (some (m + 23)))], Hsb)) (C := []) rfl trivial ?_
      refine mw_cIe (fun _ => rfl) (show mu_is Hsb (some (m + 23)) 10 from ((ub.1.1.w (md_w11 ub.2)).1)) (ub.getr (d := (d + 2)) db (j := 11) (by decide) rfl (nI i) (c := 1) (by decide)) ?_
      rw [show (tget (Vb.1 11) (nI i) 1) = (nI (ia Y i)) from ((congrArg (fun z => tget z (nI i) 1) (show Vb.1 11 = (U.1 11) from ((zzb.t 11 rfl).trans (zza.t 11 rfl)))).trans (tget_nI (by omega))).trans ((congrArg (fun z => z.2 i 1) (hj.1 11 (by decide))).trans hgi.1.2.1)]
      refine mw_go mu_g129 (k := 2) (f1 := (128, [(7, .inl (nI c)), (0, .inr (.inr (some m))), (1, .inl kd), (2, .inl fm), (3, .inl stg), (4, .inr (.inr (some 118))), (5, .inl (nI i)), (6, .inl (nI (im Y i)))], [.inr (.inr (mu_r Hsb m 1)), .inl (nI (ia Y i))], Hsb)) (C := [mu_is Hsb (some m) 6]) rfl (show mu_is Hsb (some m) 6 from (show mu_is Hsb (some m) 6 from gi_im ub.1.1 ub.2)) ?_
      rw [(show mu_r Hsb m 1 = some (m + 3) from (gi_mr ub.1.1 ub.2 (j := 1) (by decide)).trans (congrArg some (by omega)))]
      refine mw_go mu_g129 (k := 2) (f1 := (131, [(7, .inl (nI c)), (0, .inr (.inr (some m))), (1, .inl kd), (2, .inl fm), (3, .inl stg), (4, .inr (.inr (some 118))), (5, .inl (nI i)), (6, .inl (nI (im Y i)))], [.inl (2 : Int32), .inl (nI (im Y i)), .inr (.inr (some (m + 3))), .inl (nI (ia Y i))], Hsb)) (C := []) rfl trivial ?_
      refine mw_cIe (fun _ => rfl) (show mu_is Hsb (some (m + 3)) 10 from ((ub.1.1.w (md_w1 ub.2)).1)) (ub.getr (d := (d + 2)) db (j := 1) (by decide) rfl (nI (im Y i)) (c := 2) (by decide)) ?_
      rw [show (tget (Vb.1 1) (nI (im Y i)) 2) = (nI (sp Y (im Y i) 2)) from ((congrArg (fun z => tget z (nI (im Y i)) 2) (show Vb.1 1 = (U.1 1) from ((zzb.t 1 rfl).trans (zza.t 1 rfl)))).trans (tget_nI (by omega))).trans ((congrArg (fun z => z.2 (im Y i) 2) (hj.1 1 (by decide))).trans (hJ.2.2.2.2.2.1.1 (im Y i) him 2 (by decide) (by decide)).1)]
      refine mw_go mu_g129 (k := 4) (f1 := (141, [(7, .inl ((nI (ia Y i)) - (nI (sp Y (im Y i) 2)))), (0, .inr (.inr (some m))), (1, .inl kd), (2, .inl fm), (3, .inl stg), (4, .inr (.inr (some 118))), (5, .inl (nI i)), (6, .inl (nI (im Y i)))], [.inr (.inr (mu_r Hsb m 1))], Hsb)) (C := [mu_is Hsb (some m) 6]) rfl (show mu_is Hsb (some m) 6 from (show mu_is Hsb (some m) 6 from gi_im ub.1.1 ub.2)) ?_
      rw [(show mu_r Hsb m 1 = some (m + 3) from (gi_mr ub.1.1 ub.2 (j := 1) (by decide)).trans (congrArg some (by omega)))]
      refine mw_go mu_g129 (k := 2) (f1 := (144, [(7, .inl ((nI (ia Y i)) - (nI (sp Y (im Y i) 2)))), (0, .inr (.inr (some m))), (1, .inl kd), (2, .inl fm), (3, .inl stg), (4, .inr (.inr (some 118))), (5, .inl (nI i)), (6, .inl (nI (im Y i)))], [.inl (4 : Int32), .inl (nI (im Y i)), .inr (.inr (some (m + 3)))], Hsb)) (C := []) rfl trivial ?_
      refine mw_cIe (fun _ => rfl) (show mu_is Hsb (some (m + 3)) 10 from ((ub.1.1.w (md_w1 ub.2)).1)) (ub.getr (d := (d + 2)) db (j := 1) (by decide) rfl (nI (im Y i)) (c := 4) (by decide)) ?_
      rw [show (tget (Vb.1 1) (nI (im Y i)) 4) = (nI (sp Y (im Y i) 4)) from ((congrArg (fun z => tget z (nI (im Y i)) 4) (show Vb.1 1 = (U.1 1) from ((zzb.t 1 rfl).trans (zza.t 1 rfl)))).trans (tget_nI (by omega))).trans ((congrArg (fun z => z.2 (im Y i) 4) (hj.1 1 (by decide))).trans (hJ.2.2.2.2.2.1.1 (im Y i) him 4 (by decide) (by decide)).1)]
      refine mw_go mu_g129 (k := 1) (f1 := (149, [(8, .inl (nI (sp Y (im Y i) 4))), (7, .inl ((nI (ia Y i)) - (nI (sp Y (im Y i) 2)))), (0, .inr (.inr (some m))), (1, .inl kd), (2, .inl fm), (3, .inl stg), (4, .inr (.inr (some 118))), (5, .inl (nI i)), (6, .inl (nI (im Y i)))], [], Hsb)) (C := []) rfl trivial ?_
      refine mw_sub (L' := [(8, .inl (nI (sp Y (im Y i) 4))), (0, .inr (.inr (some m))), (1, .inl kd), (2, .inl fm), (3, .inl stg), (4, .inr (.inr (some 118))), (5, .inl (nI i)), (6, .inl (nI (im Y i))), (7, .inl ((nI (ia Y i)) - (nI (sp Y (im Y i) 2))))]) (by simp) ?_
      refine mw_down (α := Nat × mu_H) (fun zs => (149, [(8, .inl (nI zs.1)), (0, .inr (.inr (some m))), (1, .inl kd), (2, .inl fm), (3, .inl stg), (4, .inr (.inr (some 118))), (5, .inl (nI i)), (6, .inl (nI (im Y i))), (7, .inl ((nI (ia Y i)) - (nI (sp Y (im Y i) 2))))], [], zs.2)) (fun zs => sp Y (im Y i + 1) 4 - zs.1) (fun zs => um m zs.2 ∧ ur m C H zs.2 ∧ (uq F129c Vb (ud m zs.2)) ∧ (sp Y (im Y i) 4 ≤ zs.1 ∧ zs.1 ≤ sp Y (im Y i + 1) 4) ∧ (TKS Y kd fm stg n0 (U.1 23) ((ud m zs.2).1 23) (PCj Y i (sp Y (im Y i + 1) 5)) (PLj Y i zs.1) (sm (ncl Y) 0 i + (sp Y (im Y i + 1) 5 - sp Y (im Y i) 5) + (zs.1 - sp Y (im Y i) 4)))) (fun zs hzc ihc => ?_) (sp Y (im Y i) 4, Hsb) ⟨ub, htb, (show uq F129c Vb (ud m Hsb) from by rw [db]; exact uq.refl _ _), (show sp Y (im Y i) 4 ≤ (sp Y (im Y i) 4) ∧ (sp Y (im Y i) 4) ≤ sp Y (im Y i + 1) 4 from (by omega)), (show TKS Y kd fm stg n0 (U.1 23) ((ud m Hsb).1 23) (PCj Y i (sp Y (im Y i + 1) 5)) (PLj Y i (sp Y (im Y i) 4)) (sm (ncl Y) 0 i + (sp Y (im Y i + 1) 5 - sp Y (im Y i) 5) + ((sp Y (im Y i) 4) - sp Y (im Y i) 4)) from by rw [db]; exact (hTb.mono (fun i' c' => by rw [show c = sp Y (im Y i + 1) 5 by omega]) PLj_0 (by omega)))⟩
      obtain ⟨n, Hsc⟩ := zs
      obtain ⟨uc, htc, dc, hn, hTc⟩ := hzc
      have uc : um m Hsc := uc
      have htc : ur m C H Hsc := htc
      have zzc : uq F129c Vb (ud m Hsc) := dc
      have hn : sp Y (im Y i) 4 ≤ n ∧ n ≤ sp Y (im Y i + 1) 4 := hn
      have hTc : TKS Y kd fm stg n0 (U.1 23) ((ud m Hsc).1 23) (PCj Y i (sp Y (im Y i + 1) 5)) (PLj Y i n) (sm (ncl Y) 0 i + (sp Y (im Y i + 1) 5 - sp Y (im Y i) 5) + (n - sp Y (im Y i) 4)) := hTc
      obtain ⟨Vc, dc⟩ : ∃ V, ud m Hsc = V := ⟨_, rfl⟩
      rw [dc] at zzc hTc
      have qfc : uq F129 U Vc := qfb.tr zzc rfl
      show mu_W _ _ (149, [(8, .inl (nI n)), (0, .inr (.inr (some m))), (1, .inl kd), (2, .inl fm), (3, .inl stg), (4, .inr (.inr (some 118))), (5, .inl (nI i)), (6, .inl (nI (im Y i))), (7, .inl ((nI (ia Y i)) - (nI (sp Y (im Y i) 2))))], [], Hsc) _
      refine mw_go mu_g129 (k := 6) (f1 := (159, [(8, .inl (nI n)), (0, .inr (.inr (some m))), (1, .inl kd), (2, .inl fm), (3, .inl stg), (4, .inr (.inr (some 118))), (5, .inl (nI i)), (6, .inl (nI (im Y i))), (7, .inl ((nI (ia Y i)) - (nI (sp Y (im Y i) 2))))], [.inr (.inr (mu_r Hsc m 7)), .inl (4 : Int32), .inl (nI (im Y i)), .inr (.inr (some m)), .inl (nI n)], Hsc)) (C := [mu_is Hsc (some m) 6]) rfl (show mu_is Hsc (some m) 6 from (show mu_is Hsc (some m) 6 from gi_im uc.1.1 uc.2)) ?_
      rw [(show mu_r Hsc m 7 = some (m + 15) from (gi_mr uc.1.1 uc.2 (j := 7) (by decide)).trans (congrArg some (by omega)))]
      refine mw_cIe (fun _ => rfl) (show mu_is Hsc (some m) 6 from (show mu_is Hsc (some m) 6 from gi_im uc.1.1 uc.2)) (um_stop4 (d := (d + 1)) (k := im Y i) uc dc (jv_to hj (show (Vc.1 0) = (U.1 0) from ((zzc.t 0 rfl).trans ((zzb.t 0 rfl).trans (zza.t 0 rfl)))) (show (Vc.1 1) = (U.1 1) from ((zzc.t 1 rfl).trans ((zzb.t 1 rfl).trans (zza.t 1 rfl)))) (show (Vc.1 2) = (U.1 2) from ((zzc.t 2 rfl).trans ((zzb.t 2 rfl).trans (zza.t 2 rfl)))) (show (Vc.1 3) = (U.1 3) from ((zzc.t 3 rfl).trans ((zzb.t 3 rfl).trans (zza.t 3 rfl)))) (show (Vc.1 4) = (U.1 4) from ((zzc.t 4 rfl).trans ((zzb.t 4 rfl).trans (zza.t 4 rfl)))) (show (Vc.1 5) = (U.1 5) from ((zzc.t 5 rfl).trans ((zzb.t 5 rfl).trans (zza.t 5 rfl)))) (show (Vc.1 6) = (U.1 6) from ((zzc.t 6 rfl).trans ((zzb.t 6 rfl).trans (zza.t 6 rfl)))) (show (Vc.1 7) = (U.1 7) from ((zzc.t 7 rfl).trans ((zzb.t 7 rfl).trans (zza.t 7 rfl)))) (show (Vc.1 8) = (U.1 8) from ((zzc.t 8 rfl).trans ((zzb.t 8 rfl).trans (zza.t 8 rfl)))) (show (Vc.1 9) = (U.1 9) from ((zzc.t 9 rfl).trans ((zzb.t 9 rfl).trans (zza.t 9 rfl)))) (show (Vc.1 10) = (U.1 10) from ((zzc.t 10 rfl).trans ((zzb.t 10 rfl).trans (zza.t 10 rfl)))) (show (Vc.1 11) = (U.1 11) from ((zzc.t 11 rfl).trans ((zzb.t 11 rfl).trans (zza.t 11 rfl)))) (show (Vc.1 12) = (U.1 12) from ((zzc.t 12 rfl).trans ((zzb.t 12 rfl).trans (zza.t 12 rfl)))) (show (Vc.1 13) = (U.1 13) from ((zzc.t 13 rfl).trans ((zzb.t 13 rfl).trans (zza.t 13 rfl)))) (show (Vc.1 15) = (U.1 15) from ((zzc.t 15 rfl).trans ((zzb.t 15 rfl).trans (zza.t 15 rfl)))) (show (Vc.1 16) = (U.1 16) from ((zzc.t 16 rfl).trans ((zzb.t 16 rfl).trans (zza.t 16 rfl)))) (show (Vc.1 17) = (U.1 17) from ((zzc.t 17 rfl).trans ((zzb.t 17 rfl).trans (zza.t 17 rfl))))) hJ.2.2.2.2.2.1.1 him hJ.2.2.2.2.2.2) ?_
      refine mw_if (P := (nI n) < (nI (sp Y (im Y i + 1) 4))) (a := 165) (b := 248) (fun _ => rfl) trivial (fun h16 => ?_) (fun h16 => ?_)
      · -- 165: (nI n) < (nI (sp Y (im Y i + 1) 4))
        have nh16 : n < (sp Y (im Y i + 1) 4) := (nI_ltI (by omega) (by omega)).mp (show nI n < nI (sp Y (im Y i + 1) 4) from h16)
        refine mw_go mu_g129 (k := 2) (f1 := (169, [(8, .inl (nI n)), (0, .inr (.inr (some m))), (1, .inl kd), (2, .inl fm), (3, .inl stg), (4, .inr (.inr (some 118))), (5, .inl (nI i)), (6, .inl (nI (im Y i))), (7, .inl ((nI (ia Y i)) - (nI (sp Y (im Y i) 2))))], [.inr (.inr (mu_r Hsc m 7))], Hsc)) (C := [mu_is Hsc (some m) 6]) rfl (show mu_is Hsc (some m) 6 from (show mu_is Hsc (some m) 6 from gi_im uc.1.1 uc.2)) ?_
        rw [(show mu_r Hsc m 7 = some (m + 15) from (gi_mr uc.1.1 uc.2 (j := 7) (by decide)).trans (congrArg some (by omega)))]
        refine mw_go mu_g129 (k := 2) (f1 := (172, [(8, .inl (nI n)), (0, .inr (.inr (some m))), (1, .inl kd), (2, .inl fm), (3, .inl stg), (4, .inr (.inr (some 118))), (5, .inl (nI i)), (6, .inl (nI (im Y i))), (7, .inl ((nI (ia Y i)) - (nI (sp Y (im Y i) 2))))], [.inl (0 : Int32), .inl (nI n), .inr (.inr (some (m + 15)))], Hsc)) (C := []) rfl trivial ?_
        refine mw_cIe (fun _ => rfl) (show mu_is Hsc (some (m + 15)) 10 from ((uc.1.1.w (md_w7 uc.2)).1)) (uc.getr (d := (d + 2)) dc (j := 7) (by decide) rfl (nI n) (c := 0) (by decide)) ?_
        rw [show (tget (Vc.1 7) (nI n) 0) = ((Y 7).2 n 0) from ((congrArg (fun z => tget z (nI n) 0) (show Vc.1 7 = (U.1 7) from ((zzc.t 7 rfl).trans ((zzb.t 7 rfl).trans (zza.t 7 rfl))))).trans (tget_nI (by omega))).trans (congrArg (fun z => z.2 n 0) (hj.1 7 (by decide)))]
        refine mw_go mu_g129 (k := 1) (f1 := (176, [(8, .inl (nI n)), (0, .inr (.inr (some m))), (1, .inl kd), (2, .inl fm), (3, .inl stg), (4, .inr (.inr (some 118))), (5, .inl (nI i)), (6, .inl (nI (im Y i))), (7, .inl ((nI (ia Y i)) - (nI (sp Y (im Y i) 2))))], [.inl fm, .inl ((Y 7).2 n 0)], Hsc)) (C := []) rfl trivial ?_
        refine mw_if (P := ((Y 7).2 n 0) = fm) (a := 179) (b := 242) (fun _ => rfl) trivial (fun h18 => ?_) (fun h18 => ?_)
        · -- 179: ((Y 7).2 n 0) = fm
          obtain ⟨lv, hlv1, hlv2, hlv3, -⟩ := hLV (im Y i) him n (by omega) (by omega)
          have hlv4 := (hJ.2.2.2.2.2.1.1 (im Y i) him 2 (by decide) (by decide)).2.2
          have t2 : tabc 2 = 3 := rfl
          rw [t2] at hlv4
          have hiab := hgi.2.2.1
          unfold nv at hiab
          refine mw_go mu_g129 (k := 2) (f1 := (183, [(8, .inl (nI n)), (0, .inr (.inr (some m))), (1, .inl kd), (2, .inl fm), (3, .inl stg), (4, .inr (.inr (some 118))), (5, .inl (nI i)), (6, .inl (nI (im Y i))), (7, .inl ((nI (ia Y i)) - (nI (sp Y (im Y i) 2))))], [.inr (.inr (mu_r Hsc m 12))], Hsc)) (C := [mu_is Hsc (some m) 6]) rfl (show mu_is Hsc (some m) 6 from (show mu_is Hsc (some m) 6 from gi_im uc.1.1 uc.2)) ?_
          rw [(show mu_r Hsc m 12 = some (m + 25) from (gi_mr uc.1.1 uc.2 (j := 12) (by decide)).trans (congrArg some (by omega)))]
          refine mw_go mu_g129 (k := 3) (f1 := (189, [(8, .inl (nI n)), (0, .inr (.inr (some m))), (1, .inl kd), (2, .inl fm), (3, .inl stg), (4, .inr (.inr (some 118))), (5, .inl (nI i)), (6, .inl (nI (im Y i))), (7, .inl ((nI (ia Y i)) - (nI (sp Y (im Y i) 2))))], [.inr (.inr (mu_r Hsc m 7)), .inl ((nI (ia Y i)) - (nI (sp Y (im Y i) 2))), .inr (.inr (some (m + 25)))], Hsc)) (C := [mu_is Hsc (some m) 6]) rfl (show mu_is Hsc (some m) 6 from (show mu_is Hsc (some m) 6 from gi_im uc.1.1 uc.2)) ?_
          rw [(show mu_r Hsc m 7 = some (m + 15) from (gi_mr uc.1.1 uc.2 (j := 7) (by decide)).trans (congrArg some (by omega)))]
          refine mw_go mu_g129 (k := 2) (f1 := (192, [(8, .inl (nI n)), (0, .inr (.inr (some m))), (1, .inl kd), (2, .inl fm), (3, .inl stg), (4, .inr (.inr (some 118))), (5, .inl (nI i)), (6, .inl (nI (im Y i))), (7, .inl ((nI (ia Y i)) - (nI (sp Y (im Y i) 2))))], [.inl (1 : Int32), .inl (nI n), .inr (.inr (some (m + 15))), .inl ((nI (ia Y i)) - (nI (sp Y (im Y i) 2))), .inr (.inr (some (m + 25)))], Hsc)) (C := []) rfl trivial ?_
          refine mw_cIe (fun _ => rfl) (show mu_is Hsc (some (m + 15)) 10 from ((uc.1.1.w (md_w7 uc.2)).1)) (uc.getr (d := (d + 2)) dc (j := 7) (by decide) rfl (nI n) (c := 1) (by decide)) ?_
          rw [show (tget (Vc.1 7) (nI n) 1) = (nI lv) from ((congrArg (fun z => tget z (nI n) 1) (show Vc.1 7 = (U.1 7) from ((zzc.t 7 rfl).trans ((zzb.t 7 rfl).trans (zza.t 7 rfl))))).trans (tget_nI (by omega))).trans ((congrArg (fun z => z.2 n 1) (hj.1 7 (by decide))).trans hlv1)]
          refine mw_go mu_g129 (k := 1) (f1 := (196, [(8, .inl (nI n)), (0, .inr (.inr (some m))), (1, .inl kd), (2, .inl fm), (3, .inl stg), (4, .inr (.inr (some 118))), (5, .inl (nI i)), (6, .inl (nI (im Y i))), (7, .inl ((nI (ia Y i)) - (nI (sp Y (im Y i) 2))))], [.inl (((nI (ia Y i)) - (nI (sp Y (im Y i) 2))) + (nI lv)), .inr (.inr (some (m + 25)))], Hsc)) (C := []) rfl trivial ?_
          rw [show (((nI (ia Y i)) - (nI (sp Y (im Y i) 2))) + (nI lv)) = nI (ia Y i + (lv - sp Y (im Y i) 2)) from nI_slot hlv2]
          refine mw_go mu_g129 (k := 1) (f1 := (197, [(8, .inl (nI n)), (0, .inr (.inr (some m))), (1, .inl kd), (2, .inl fm), (3, .inl stg), (4, .inr (.inr (some 118))), (5, .inl (nI i)), (6, .inl (nI (im Y i))), (7, .inl ((nI (ia Y i)) - (nI (sp Y (im Y i) 2))))], [.inl (0 : Int32), .inl (nI (ia Y i + (lv - sp Y (im Y i) 2))), .inr (.inr (some (m + 25)))], Hsc)) (C := []) rfl trivial ?_
          refine mw_cIe (fun _ => rfl) (show mu_is Hsc (some (m + 25)) 10 from ((uc.1.1.w (md_w12 uc.2)).1)) (uc.getr (d := (d + 2)) dc (j := 12) (by decide) rfl (nI (ia Y i + (lv - sp Y (im Y i) 2))) (c := 0) (by decide)) ?_
          rw [show (tget (Vc.1 12) (nI (ia Y i + (lv - sp Y (im Y i) 2))) 0) = (lvr Y i n) from ((congrArg (fun z => tget z (nI (ia Y i + (lv - sp Y (im Y i) 2))) 0) (show Vc.1 12 = (U.1 12) from ((zzc.t 12 rfl).trans ((zzb.t 12 rfl).trans (zza.t 12 rfl))))).trans (tget_nI (by omega))).trans ((congrArg (fun z => z.2 (ia Y i + (lv - sp Y (im Y i) 2)) 0) (hj.1 12 (by decide))).trans (by unfold lvr; rw [hlv1, nI_clamp (by omega)]))]
          refine mw_go mu_g129 (k := 4) (f1 := (208, [(9, .inl (lvr Y i n)), (8, .inl (nI n)), (0, .inr (.inr (some m))), (1, .inl kd), (2, .inl fm), (3, .inl stg), (4, .inr (.inr (some 118))), (5, .inl (nI i)), (6, .inl (nI (im Y i))), (7, .inl ((nI (ia Y i)) - (nI (sp Y (im Y i) 2))))], [.inr (.inr (mu_r Hsc m 7)), .inr (.inr (some 118))], Hsc)) (C := [mu_is Hsc (some m) 6]) rfl (show mu_is Hsc (some m) 6 from (show mu_is Hsc (some m) 6 from gi_im uc.1.1 uc.2)) ?_
          rw [(show mu_r Hsc m 7 = some (m + 15) from (gi_mr uc.1.1 uc.2 (j := 7) (by decide)).trans (congrArg some (by omega)))]
          refine mw_go mu_g129 (k := 2) (f1 := (211, [(9, .inl (lvr Y i n)), (8, .inl (nI n)), (0, .inr (.inr (some m))), (1, .inl kd), (2, .inl fm), (3, .inl stg), (4, .inr (.inr (some 118))), (5, .inl (nI i)), (6, .inl (nI (im Y i))), (7, .inl ((nI (ia Y i)) - (nI (sp Y (im Y i) 2))))], [.inl (2 : Int32), .inl (nI n), .inr (.inr (some (m + 15))), .inr (.inr (some 118))], Hsc)) (C := []) rfl trivial ?_
          refine mw_cIe (fun _ => rfl) (show mu_is Hsc (some (m + 15)) 10 from ((uc.1.1.w (md_w7 uc.2)).1)) (uc.getr (d := (d + 2)) dc (j := 7) (by decide) rfl (nI n) (c := 2) (by decide)) ?_
          rw [show (tget (Vc.1 7) (nI n) 2) = ((Y 7).2 n 2) from ((congrArg (fun z => tget z (nI n) 2) (show Vc.1 7 = (U.1 7) from ((zzc.t 7 rfl).trans ((zzb.t 7 rfl).trans (zza.t 7 rfl))))).trans (tget_nI (by omega))).trans (congrArg (fun z => z.2 n 2) (hj.1 7 (by decide)))]
          refine mw_go mu_g129 (k := 2) (f1 := (218, [(9, .inl (lvr Y i n)), (8, .inl (nI n)), (0, .inr (.inr (some m))), (1, .inl kd), (2, .inl fm), (3, .inl stg), (4, .inr (.inr (some 118))), (5, .inl (nI i)), (6, .inl (nI (im Y i))), (7, .inl ((nI (ia Y i)) - (nI (sp Y (im Y i) 2))))], [.inr (.inr (mu_r Hsc m 7)), .inl ((Y 7).2 n 2), .inr (.inr (some 118))], Hsc)) (C := [mu_is Hsc (some m) 6]) rfl (show mu_is Hsc (some m) 6 from (show mu_is Hsc (some m) 6 from gi_im uc.1.1 uc.2)) ?_
          rw [(show mu_r Hsc m 7 = some (m + 15) from (gi_mr uc.1.1 uc.2 (j := 7) (by decide)).trans (congrArg some (by omega)))]
          refine mw_go mu_g129 (k := 2) (f1 := (221, [(9, .inl (lvr Y i n)), (8, .inl (nI n)), (0, .inr (.inr (some m))), (1, .inl kd), (2, .inl fm), (3, .inl stg), (4, .inr (.inr (some 118))), (5, .inl (nI i)), (6, .inl (nI (im Y i))), (7, .inl ((nI (ia Y i)) - (nI (sp Y (im Y i) 2))))], [.inl (3 : Int32), .inl (nI n), .inr (.inr (some (m + 15))), .inl ((Y 7).2 n 2), .inr (.inr (some 118))], Hsc)) (C := []) rfl trivial ?_
          refine mw_cIe (fun _ => rfl) (show mu_is Hsc (some (m + 15)) 10 from ((uc.1.1.w (md_w7 uc.2)).1)) (uc.getr (d := (d + 2)) dc (j := 7) (by decide) rfl (nI n) (c := 3) (by decide)) ?_
          rw [show (tget (Vc.1 7) (nI n) 3) = ((Y 7).2 n 3) from ((congrArg (fun z => tget z (nI n) 3) (show Vc.1 7 = (U.1 7) from ((zzc.t 7 rfl).trans ((zzb.t 7 rfl).trans (zza.t 7 rfl))))).trans (tget_nI (by omega))).trans (congrArg (fun z => z.2 n 3) (hj.1 7 (by decide)))]
          refine mw_go mu_g129 (k := 2) (f1 := (228, [(9, .inl (lvr Y i n)), (8, .inl (nI n)), (0, .inr (.inr (some m))), (1, .inl kd), (2, .inl fm), (3, .inl stg), (4, .inr (.inr (some 118))), (5, .inl (nI i)), (6, .inl (nI (im Y i))), (7, .inl ((nI (ia Y i)) - (nI (sp Y (im Y i) 2))))], [.inl (lvr Y i n), .inl (nI i), .inl ((Y 7).2 n 3), .inl ((Y 7).2 n 2), .inr (.inr (some 118))], Hsc)) (C := []) rfl trivial ?_
          refine mw_cI (fun _ => rfl) (show mu_is Hsc (some 118) 10 from (uc.1.1.is rfl)) (uc.putr (C := C) (d := d) dc (j := 23) (Or.inr ⟨by decide, by decide⟩) rfl ((Y 7).2 n 2) ((Y 7).2 n 3) (nI i) (lvr Y i n) (by show 2 * (((Vc.1 23).1 + 1) * 5) + 5 ≤ C 23; have z1 := hTc.1.2; omega) hC2) (fun x23 Q23 q23 => ?_)
          obtain ⟨rfl, u23, r23, d23⟩ := q23
          have ht23 : ur m C H Q23 := htc.trans r23
          have qf23 : uq F129 U (upT Vc (ap 23 Vc.1 ((Y 7).2 n 2) ((Y 7).2 n 3) (nI i) (lvr Y i n))) := qfc.ap rfl
          refine mw_go mu_g129 (k := 5) (f1 := (239, [(10, .inl (nI (Vc.1 23).1)), (9, .inl (lvr Y i n)), (8, .inl (nI n)), (0, .inr (.inr (some m))), (1, .inl kd), (2, .inl fm), (3, .inl stg), (4, .inr (.inr (some 118))), (5, .inl (nI i)), (6, .inl (nI (im Y i))), (7, .inl ((nI (ia Y i)) - (nI (sp Y (im Y i) 2))))], [.inl stg, .inl (4 : Int32), .inl (nI (Vc.1 23).1), .inr (.inr (some 118))], Q23)) (C := []) rfl trivial ?_
          refine mw_cV (fun _ => rfl) (show mu_is Q23 (some 118) 10 from (u23.1.1.is rfl)) (u23.setr (C := C) (d := (d + 2)) d23 (j := 23) (Or.inr ⟨by decide, by decide⟩) rfl (nI (Vc.1 23).1) stg (c := 4) (by decide)) (fun Q24 q24 => ?_)
          obtain ⟨u24, r24, d24⟩ := q24
          have ht24 : ur m C H Q24 := ht23.trans r24
          have qf24 : uq F129 U (upT (upT Vc (ap 23 Vc.1 ((Y 7).2 n 2) ((Y 7).2 n 3) (nI i) (lvr Y i n))) (ax 23 (upT Vc (ap 23 Vc.1 ((Y 7).2 n 2) ((Y 7).2 n 3) (nI i) (lvr Y i n))).1 (nI (Vc.1 23).1) 4 stg)) := qf23.ax rfl
          refine mw_go mu_g129 (k := 1) (f1 := (245, [(8, .inl ((nI n) + 1)), (10, .inl (nI (Vc.1 23).1)), (9, .inl (lvr Y i n)), (0, .inr (.inr (some m))), (1, .inl kd), (2, .inl fm), (3, .inl stg), (4, .inr (.inr (some 118))), (5, .inl (nI i)), (6, .inl (nI (im Y i))), (7, .inl ((nI (ia Y i)) - (nI (sp Y (im Y i) 2))))], [], Q24)) (C := []) rfl trivial ?_
          rw [(show ((nI n) + 1) = (nI (n + 1)) from (nI_add n 1))]
          refine mw_go mu_g129 (k := 1) (f1 := (149, [(8, .inl (nI (n + 1))), (10, .inl (nI (Vc.1 23).1)), (9, .inl (lvr Y i n)), (0, .inr (.inr (some m))), (1, .inl kd), (2, .inl fm), (3, .inl stg), (4, .inr (.inr (some 118))), (5, .inl (nI i)), (6, .inl (nI (im Y i))), (7, .inl ((nI (ia Y i)) - (nI (sp Y (im Y i) 2))))], [], Q24)) (C := []) rfl trivial ?_
          exact mw_sub (by simp) (ihc (n + 1, Q24) ⟨u24, ht24, (show uq F129c Vb (ud m Q24) from by rw [d24]; exact ((zzc.T (fun q hq => by first | exact ax_ne (in1_ne rfl hq) | exact ap_ne (in1_ne rfl hq) | exact fu_ne _ _ (in1_ne rfl hq))).T (fun q hq => by first | exact ax_ne (in1_ne rfl hq) | exact ap_ne (in1_ne rfl hq) | exact fu_ne _ _ (in1_ne rfl hq)))), (show sp Y (im Y i) 4 ≤ (n + 1) ∧ (n + 1) ≤ sp Y (im Y i + 1) 4 from (by omega)), (show TKS Y kd fm stg n0 (U.1 23) ((ud m Q24).1 23) (PCj Y i (sp Y (im Y i + 1) 5)) (PLj Y i (n + 1)) (sm (ncl Y) 0 i + (sp Y (im Y i + 1) 5 - sp Y (im Y i) 5) + ((n + 1) - sp Y (im Y i) 4)) from by rw [d24]; exact ((TKS.li (i := i) hTc h18 (by have z1 := hTc.1.2; omega)).mono (fun _ _ => Iff.rfl) (PLj_s (by omega)) (by omega)))⟩ (by show sp Y (im Y i + 1) 4 - (n + 1) < sp Y (im Y i + 1) 4 - n; omega))
        · -- 242: not ((Y 7).2 n 0) = fm
          refine mw_go mu_g129 (k := 1) (f1 := (245, [(8, .inl ((nI n) + 1)), (0, .inr (.inr (some m))), (1, .inl kd), (2, .inl fm), (3, .inl stg), (4, .inr (.inr (some 118))), (5, .inl (nI i)), (6, .inl (nI (im Y i))), (7, .inl ((nI (ia Y i)) - (nI (sp Y (im Y i) 2))))], [], Hsc)) (C := []) rfl trivial ?_
          rw [(show ((nI n) + 1) = (nI (n + 1)) from (nI_add n 1))]
          refine mw_go mu_g129 (k := 1) (f1 := (149, [(8, .inl (nI (n + 1))), (0, .inr (.inr (some m))), (1, .inl kd), (2, .inl fm), (3, .inl stg), (4, .inr (.inr (some 118))), (5, .inl (nI i)), (6, .inl (nI (im Y i))), (7, .inl ((nI (ia Y i)) - (nI (sp Y (im Y i) 2))))], [], Hsc)) (C := []) rfl trivial ?_
          exact mw_sub (by simp) (ihc (n + 1, Hsc) ⟨uc, htc, (show uq F129c Vb (ud m Hsc) from by rw [dc]; exact zzc), (show sp Y (im Y i) 4 ≤ (n + 1) ∧ (n + 1) ≤ sp Y (im Y i + 1) 4 from (by omega)), (show TKS Y kd fm stg n0 (U.1 23) ((ud m Hsc).1 23) (PCj Y i (sp Y (im Y i + 1) 5)) (PLj Y i (n + 1)) (sm (ncl Y) 0 i + (sp Y (im Y i + 1) 5 - sp Y (im Y i) 5) + ((n + 1) - sp Y (im Y i) 4)) from by rw [dc]; exact ((TKS.nl (i := i) hTc h18).mono (fun _ _ => Iff.rfl) (PLj_s (by omega)) (by omega)))⟩ (by show sp Y (im Y i + 1) 4 - (n + 1) < sp Y (im Y i + 1) 4 - n; omega))
      · -- 248: not (nI n) < (nI (sp Y (im Y i + 1) 4))
        have nh16 : ¬ n < (sp Y (im Y i + 1) 4) := fun z => h16 (show nI n < nI (sp Y (im Y i + 1) 4) from (nI_ltI (by omega) (by omega)).mpr z)
        refine mw_go mu_g129 (k := 1) (f1 := (251, [(5, .inl ((nI i) + 1)), (8, .inl (nI n)), (0, .inr (.inr (some m))), (1, .inl kd), (2, .inl fm), (3, .inl stg), (4, .inr (.inr (some 118))), (6, .inl (nI (im Y i))), (7, .inl ((nI (ia Y i)) - (nI (sp Y (im Y i) 2))))], [], Hsc)) (C := []) rfl trivial ?_
        rw [(show ((nI i) + 1) = (nI (i + 1)) from (nI_add i 1))]
        refine mw_go mu_g129 (k := 1) (f1 := (3, [(5, .inl (nI (i + 1))), (8, .inl (nI n)), (0, .inr (.inr (some m))), (1, .inl kd), (2, .inl fm), (3, .inl stg), (4, .inr (.inr (some 118))), (6, .inl (nI (im Y i))), (7, .inl ((nI (ia Y i)) - (nI (sp Y (im Y i) 2))))], [], Hsc)) (C := []) rfl trivial ?_
        exact mw_sub (by simp) (iha (i + 1, Hsc) ⟨uc, htc, (show uq F129a U (ud m Hsc) from by rw [dc]; exact ((zza.tr zzb rfl).tr zzc rfl)), (show (i + 1) ≤ (Y 11).1 from (by omega)), (show TKS Y kd fm stg n0 (U.1 23) ((ud m Hsc).1 23) (PCi Y (i + 1)) (PLi Y (i + 1)) (sm (ncl Y) 0 (i + 1)) from by rw [dc]; exact (hTc.mono (PCj_e rfl) (PLj_e (by omega)) (by omega)))⟩ (by show (Y 11).1 - (i + 1) < (Y 11).1 - i; omega))
  · -- 254: not (nI i) < (nI (Y 11).1)
    have nh1 : ¬ i < ((Y 11).1) := fun z => h1 (show nI i < nI ((Y 11).1) from (nI_ltI (by omega) (by omega)).mpr z)
    have hie : i = (Y 11).1 := by omega
    rw [hie] at hTa
    exact mw_of (fun _ => mu_ret rfl trivial ⟨Hsa, rfl, ua, hta, (by rw [da]; exact qfa), (by rw [da]; exact hTa)⟩)
end Collect
