/-! Steps of the further instructions, over the functions -/
/-- a reference to an object or to a String constant -/
def mu_rf (H : mu_H) (o : Option Nat) : Prop := mu_str o ∨ (o = some (mu_p o) ∧ mu_p o < mu_z H)
/-- a String: a constant, or one of the world -/
def mu_sg (H : mu_H) (o : Option Nat) : Prop := mu_str o ∨ mu_is H o 19
theorem mu_sg.rf {H : mu_H} {o : Option Nat} (h : mu_sg H o) : mu_rf H o := h.imp id (fun z => ⟨z.1, z.2.1⟩)
theorem mu_v_z {H : mu_H} {w : List ev_C} (hr : mu_rep H w) {o : Option Nat} (h : o = some (mu_p o) ∧ mu_p o < mu_z H) : mu_v (.inr (.inr o)) = .inl (.ref (mu_p o)) := by
  have := hr.2.1.1
  rw [h.1]
  exact mu_v_ref (by have := h.2; omega)
theorem mu_beq (i j : Nat) : Nat.beq i j = decide (i = j) := by
  by_cases e : i = j
  · subst e
    rw [Nat.beq_refl]
    exact (decide_eq_true rfl).symm
  · rw [decide_eq_false e]
    cases hq : Nat.beq i j with
    | false => rfl
    | true => exact absurd (Nat.eq_of_beq_eq_true hq) e
theorem mu_same_v {H : mu_H} {w : List ev_C} (hr : mu_rep H w) {a b : Option Nat} (ha : mu_rf H a) (hb : mu_rf H b) : ev_same ev_jk (mu_v (.inr (.inr a))) (mu_v (.inr (.inr b))) = some (decide (a = b)) := by
  have hz : mu_z H ≤ 1000000 := hr.2.1.1
  rcases ha with ha | ha
  · obtain ⟨i, hi, ei, vi⟩ := mu_str_v ha
    have ea := ha.1
    rcases hb with hb | hb
    · obtain ⟨j, hj, ej, vj⟩ := mu_str_v hb
      have eb := hb.1
      rw [vi, vj]
      show (bif Nat.blt i ev_jk && Nat.blt j ev_jk then some (Nat.beq i j) else none) = _
      rw [show Nat.blt i ev_jk = true from Nat.ble_eq_true_of_le hi, show Nat.blt j ev_jk = true from Nat.ble_eq_true_of_le hj, mu_beq]
      show some (decide (i = j)) = some (decide (a = b))
      by_cases e : i = j
      · have e2 : a = b := by rw [ea, eb, ei, ej, e]
        rw [decide_eq_true e, decide_eq_true e2]
      · have e2 : ¬ a = b := fun q => e (by have := congrArg mu_p q; omega)
        rw [decide_eq_false e, decide_eq_false e2]
    · rw [vi, mu_v_z hr hb]
      show (bif Nat.blt i ev_jk then some false else none) = _
      rw [show Nat.blt i ev_jk = true from Nat.ble_eq_true_of_le hi]
      have hne : ¬ a = b := fun e => by
        have h1 := congrArg mu_p e
        have := hb.2
        omega
      rw [decide_eq_false hne]
      rfl
  · rcases hb with hb | hb
    · obtain ⟨j, hj, ej, vj⟩ := mu_str_v hb
      rw [vj, mu_v_z hr ha]
      show (bif Nat.blt j ev_jk then some false else none) = _
      rw [show Nat.blt j ev_jk = true from Nat.ble_eq_true_of_le hj]
      have hne : ¬ a = b := fun e => by
        have h1 := congrArg mu_p e
        have := ha.2
        omega
      rw [decide_eq_false hne]
      rfl
    · rw [mu_v_z hr ha, mu_v_z hr hb]
      show some (Nat.beq (mu_p a) (mu_p b)) = _
      rw [mu_beq]
      by_cases e : mu_p a = mu_p b
      · have e2 : a = b := by rw [ha.1, hb.1, e]
        rw [decide_eq_true e, decide_eq_true e2]
      · have e2 : ¬ a = b := fun q => e (congrArg mu_p q)
        rw [decide_eq_false e, decide_eq_false e2]
theorem mu_isS_v {H : mu_H} {w : List ev_C} (hr : mu_rep H w) {o : Option Nat} (h : mu_sg H o) : ev_isS ev_jk w (mu_v (.inr (.inr o))) = true := by
  rcases h with h | h
  · obtain ⟨j, hj, ej, vj⟩ := mu_str_v h
    rw [vj]
    exact Nat.ble_eq_true_of_le hj
  · obtain ⟨a1, a2⟩ := mu_atO hr h (by decide)
    rw [a2]
    unfold ev_isS
    dsimp only
    rw [a1]
    rfl
theorem ev_stepA_2 {fds : List (List ev_V)} {jk : Nat} {kb : List (List Int32)} {sc : List ev_V} {nL : Nat} {ins : Instr} {ops : List Nat} {f g : ev_F} (h1 : ev_step fds jk kb sc nL ins ops f = none) (h2 : ev_step2 jk ins ops f = some g) : ev_stepA fds jk kb sc nL ins ops f = some g := by
  unfold ev_stepA
  rw [h1]
  exact h2
section MuNew
variable {run : Nat → List ev_V → List ev_C → Option ev_R} {M : ev_M}
/-- a step that is neither a call nor an end -/
theorem mu_s1 {f f1 : mu_F} {Φ : mu_R → Prop} {ins : Instr} {ops : List Nat}
    (hA : ∀ (go : ev_F → Option ev_R) (g : ev_F), g.1 = f.1 → ev_body (fun r => bif ev_rok M.2.1 M.2.2.1 r then some r else none) run ev_fds ev_jk ev_kb [] M.1 M.2.2.1 M.2.2.2 go g = match ev_stepA ev_fds ev_jk ev_kb [] M.1 ins ops g with | some f1 => go f1 | none => none)
    (h : ∀ (w : List ev_C) (c n : Nat), mu_rep f.2.2.2 w → mu_to (ev_stepA ev_fds ev_jk ev_kb [] M.1 ins ops (mu_e f w c n)) f f1 c n) (hG : mu_HT run M f1 Φ) : mu_HT run M f Φ := by
  refine mu_ev1 (fun w c n hr => ?_) hG
  obtain ⟨w1, a1, a2, a3, a4⟩ := h w c n hr
  exact ⟨w1, a2, a3, a4, fun go => by rw [hA go (mu_e f w c n) rfl, a1]⟩
theorem mu_acmp_ne {pc t : Nat} {off : Int} {L : mu_L} {S : List mu_V} {a b : Option Nat} {H : mu_H} {Φ : mu_R → Prop} (hf : ev_find M.2.2.2 pc = some (.if_acmp .ne off, [t])) (ha : mu_rf H a) (hb : mu_rf H b) (h1 : a = b → mu_HT run M (pc + 3, L, S, H) Φ) (h2 : ¬ a = b → mu_HT run M (t, L, S, H) Φ) : mu_HT run M (pc, L, .inr (.inr b) :: .inr (.inr a) :: S, H) Φ := by
  by_cases e : a = b
  · refine mu_s1 (ins := .if_acmp .ne off) (ops := [t]) (f1 := (pc + 3, L, S, H)) (fun go g hg => by unfold ev_body; rw [hg, hf]; rfl) (fun w c n hr => ?_) (h1 e)
    refine mu_keep hr rfl (ev_stepA_2 rfl ?_)
    show (match ev_go (ev_cond2 .ne (ev_same ev_jk (mu_v (.inr (.inr a))) (mu_v (.inr (.inr b))))) t (pc + 3) with | some q => some (q, mu_m L, S.map mu_v, w, c, n) | none => none) = _
    rw [mu_same_v hr ha hb, decide_eq_true e]
    rfl
  · refine mu_s1 (ins := .if_acmp .ne off) (ops := [t]) (f1 := (t, L, S, H)) (fun go g hg => by unfold ev_body; rw [hg, hf]; rfl) (fun w c n hr => ?_) (h2 e)
    refine mu_keep hr rfl (ev_stepA_2 rfl ?_)
    show (match ev_go (ev_cond2 .ne (ev_same ev_jk (mu_v (.inr (.inr a))) (mu_v (.inr (.inr b))))) t (pc + 3) with | some q => some (q, mu_m L, S.map mu_v, w, c, n) | none => none) = _
    rw [mu_same_v hr ha hb, decide_eq_false e]
    rfl
theorem mu_instS {pc idx : Nat} {ops : List Nat} {L : mu_L} {S : List mu_V} {o : Option Nat} {H : mu_H} {Φ : mu_R → Prop} (hf : ev_find M.2.2.2 pc = some (.instanceof idx, ops)) (ho : mu_sg H o) (h : mu_HT run M (pc + 3, L, .inl 1 :: S, H) Φ) : mu_HT run M (pc, L, .inr (.inr o) :: S, H) Φ := by
  refine mu_s1 (ins := .instanceof idx) (ops := ops) (fun go g hg => by unfold ev_body; rw [hg, hf]; rfl) (fun w c n hr => ?_) h
  refine mu_keep hr rfl (ev_stepA_2 rfl ?_)
  show (bif ev_isS ev_jk w (mu_v (.inr (.inr o))) then some (pc + 3, mu_m L, Sum.inl (Value.int 1) :: S.map mu_v, w, c, n) else none) = _
  rw [mu_isS_v hr ho]
  rfl
theorem mu_castS {pc idx pl : Nat} {L : mu_L} {S : List mu_V} {o : Option Nat} {H : mu_H} {Φ : mu_R → Prop} (hf : ev_find M.2.2.2 pc = some (.checkcast idx, [pl])) (ho : mu_sg H o) (h : mu_HT run M (pc + 3, L, .inr (.inr o) :: S, H) Φ) : mu_HT run M (pc, L, .inr (.inr o) :: S, H) Φ := by
  refine mu_s1 (ins := .checkcast idx) (ops := [pl]) (fun go g hg => by unfold ev_body; rw [hg, hf]; rfl) (fun w c n hr => ?_) h
  refine mu_keep hr rfl (ev_stepA_2 rfl ?_)
  show (bif ev_isS ev_jk w (mu_v (.inr (.inr o))) then some (pc + 3, mu_m L, mu_v (.inr (.inr o)) :: S.map mu_v, w, c, n) else none) = _
  rw [mu_isS_v hr ho]
  rfl
theorem mu_castB {pc idx pl p2 : Nat} {L : mu_L} {S : List mu_V} {o : Option Nat} {H : mu_H} {Φ : mu_R → Prop} (hf : ev_find M.2.2.2 pc = some (.checkcast idx, [pl, p2])) (ho : mu_is H o 101) (h : mu_HT run M (pc + 3, L, .inr (.inr o) :: S, H) Φ) : mu_HT run M (pc, L, .inr (.inr o) :: S, H) Φ := by
  refine mu_s1 (ins := .checkcast idx) (ops := [pl, p2]) (fun go g hg => by unfold ev_body; rw [hg, hf]; rfl) (fun w c n hr => ?_) h
  obtain ⟨d, wr, a1, a2, a3⟩ := mu_atA (t := 1) hr ho
  refine mu_keep hr rfl (ev_stepA_2 rfl ?_)
  show ev_step2 ev_jk (.checkcast idx) [pl, p2] (pc, mu_m L, mu_v (.inr (.inr o)) :: S.map mu_v, w, c, n) = some (pc + 3, mu_m L, mu_v (.inr (.inr o)) :: S.map mu_v, w, c, n)
  rw [a3]
  show (match w[mu_p o]? with | some (.inr (t, _, _, _)) => (bif Nat.beq t 1 then some (pc + 3, mu_m L, Sum.inl (Value.ref (mu_p o)) :: S.map mu_v, w, c, n) else none) | _ => none) = _
  rw [a1]
  rfl
theorem mu_ald8 {pc : Nat} {ops : List Nat} {L : mu_L} {S : List mu_V} {i : Int32} {o : Option Nat} {H : mu_H} {Φ : mu_R → Prop} (hf : ev_find M.2.2.2 pc = some (.baload, ops)) (ho : mu_is H o 108) (hi : vp_in i (mu_n H (mu_p o))) (h : mu_HT run M (pc + 1, L, .inl (mu_i H (mu_p o) i.toNatClampNeg) :: S, H) Φ) : mu_HT run M (pc, L, .inl i :: .inr (.inr o) :: S, H) Φ := by
  refine mu_s1 (ins := .baload) (ops := ops) (fun go g hg => by unfold ev_body; rw [hg, hf]; rfl) (fun w c n hr => ?_) h
  obtain ⟨d, wr, a1, a2, a3⟩ := mu_atA (t := 8) hr ho
  obtain ⟨b1, b2⟩ := mu_ix hi
  refine mu_keep hr rfl ?_
  show ev_stepA ev_fds ev_jk ev_kb [] M.1 .baload ops (pc, mu_m L, .inl (.int i) :: mu_v (.inr (.inr o)) :: S.map mu_v, w, c, n) = _
  rw [a3]
  refine ev_stepA_2 ?_ ?_
  · show ev_ald 1 ev_kb [] (pc, mu_m L, .inl (.int i) :: .inl (.ref (mu_p o)) :: S.map mu_v, w, c, n) = none
    unfold ev_ald
    dsimp only
    rw [a1]
    rfl
  · show (match w[mu_p o]? with | some (.inr (u, N, d, wr)) => (bif Nat.beq 8 u then (match ev_ix N (.inl (.int i)) with | some i => some (pc + 1, mu_m L, ev_at d wr i :: S.map mu_v, w, c, n) | none => none) else none) | _ => none) = _
    rw [a1]
    show (match ev_ix (mu_n H (mu_p o)) (.inl (.int i)) with | some i => some (pc + 1, mu_m L, ev_at d wr i :: S.map mu_v, w, c, n) | none => none) = _
    rw [b1]
    show some (pc + 1, mu_m L, ev_at d wr i.toNatClampNeg :: S.map mu_v, w, c, n) = _
    rw [a2 _ b2]
    rfl
theorem mu_ast8 {pc : Nat} {ops : List Nat} {L : mu_L} {S : List mu_V} {v i : Int32} {o : Option Nat} {H : mu_H} {Φ : mu_R → Prop} (hf : ev_find M.2.2.2 pc = some (.bastore, ops)) (ho : mu_is H o 108) (hi : vp_in i (mu_n H (mu_p o))) (hv : v = 0 ∨ v = 1) (h : mu_HT run M (pc + 1, L, S, mu_si H (mu_p o) i.toNatClampNeg v) Φ) : mu_HT run M (pc, L, .inl v :: .inl i :: .inr (.inr o) :: S, H) Φ := by
  refine mu_s1 (ins := .bastore) (ops := ops) (fun go g hg => by unfold ev_body; rw [hg, hf]; rfl) (fun w c n hr => ?_) h
  obtain ⟨d, wr, a1, a2, a3⟩ := mu_atA (t := 8) hr ho
  obtain ⟨b1, b2⟩ := mu_ix hi
  refine mu_put (q := mu_p o) (x := .inr (8, mu_n H (mu_p o), d, (i.toNatClampNeg, .inl (.int v)) :: wr)) hr rfl rfl rfl ho.2.1 ⟨ho.2.2, rfl, fun j hj => ?_⟩ (fun p hp => mu_same_si hp) ?_
  · rw [mu_at_cons (r := .inl (.int v)) (v := .inl v) (g := fun j => mu_f H (mu_p o) j 0) (a2 j hj) rfl]
    show mu_v _ = mu_v (.inl (mu_i (mu_si H (mu_p o) i.toNatClampNeg v) (mu_p o) j))
    rw [mu_i_si]
    by_cases e : j = i.toNatClampNeg
    · rw [if_pos e, if_pos ⟨rfl, e⟩]
    · rw [if_neg e, if_neg (fun z => e z.2)]; rfl
  · show ev_stepA ev_fds ev_jk ev_kb [] M.1 .bastore ops (pc, mu_m L, .inl (.int v) :: .inl (.int i) :: mu_v (.inr (.inr o)) :: S.map mu_v, w, c, n) = _
    rw [a3]
    refine ev_stepA_2 ?_ ?_
    · show ev_ast 1 (pc, mu_m L, .inl (.int v) :: .inl (.int i) :: .inl (.ref (mu_p o)) :: S.map mu_v, w, c, n) = none
      unfold ev_ast
      dsimp only
      rw [a1]
      rfl
    · have hbit : ev_bit (.inl (.int v)) = true := by
        show (decide (v = 0) || decide (v = 1)) = true
        simpa using hv
      show (match w[mu_p o]? with | some (.inr (u, N, d, wr)) => (bif Nat.beq 8 u && ev_bit (.inl (.int v)) then (match ev_ix N (.inl (.int i)) with | some i => some (pc + 1, mu_m L, S.map mu_v, w.set (mu_p o) (.inr (u, N, d, (i, .inl (.int v)) :: wr)), c, n) | none => none) else none) | _ => none) = _
      rw [a1, hbit]
      show (match ev_ix (mu_n H (mu_p o)) (.inl (.int i)) with | some i => some (pc + 1, mu_m L, S.map mu_v, w.set (mu_p o) (.inr (8, mu_n H (mu_p o), d, (i, .inl (.int v)) :: wr)), c, n) | none => none) = _
      rw [b1]
/-- a reference stored into an array -/
theorem mu_put_r {step : Option ev_F} {pc pc1 t i c n : Nat} {L L1 : mu_L} {S S1 : List mu_V} {v o : Option Nat} {H : mu_H} {w : List ev_C} {d : ev_V} {wr : List (Nat × ev_V)} (hr : mu_rep H w) (h1 : mu_is H o (100 + t)) (het : mu_et t = 2) (a2 : ∀ j, j < mu_n H (mu_p o) → ev_at d wr j = mu_v (mu_f H (mu_p o) j (mu_et t))) (h : step = some (pc1, mu_m L1, S1.map mu_v, w.set (mu_p o) (.inr (t, mu_n H (mu_p o), d, (i, mu_v (.inr (.inr v))) :: wr)), c, n)) : mu_to step (pc, L, S, H) (pc1, L1, S1, mu_sr H (mu_p o) i v) c n := by
  refine mu_put (q := mu_p o) (x := .inr (t, mu_n H (mu_p o), d, (i, mu_v (.inr (.inr v))) :: wr)) hr rfl rfl rfl h1.2.1 ⟨h1.2.2, rfl, fun j hj => ?_⟩ (fun p hp => mu_same_sr hp) h
  rw [mu_at_cons (v := .inr (.inr v)) (g := fun j => mu_f H (mu_p o) j 2) (by rw [a2 j hj, het]) rfl, het]
  show mu_v _ = mu_v (.inr (.inr (mu_r (mu_sr H (mu_p o) i v) (mu_p o) j)))
  rw [mu_r_sr]
  by_cases e : j = i
  · rw [if_pos e, if_pos ⟨rfl, e⟩]
  · rw [if_neg e, if_neg (fun z => e z.2)]; rfl
/-- an object stored into an array of its class -/
theorem mu_aastO {pc t ct : Nat} {ops : List Nat} {L : mu_L} {S : List mu_V} {v o : Option Nat} {i : Int32} {H : mu_H} {Φ : mu_R → Prop} (hf : ev_find M.2.2.2 pc = some (.aastore, ops)) (ho : mu_is H o (100 + t)) (hv : mu_is H v ct) (ht : t = 6 ∧ ct = 17 ∨ t = 7 ∧ ct = 14 ∨ t = 9 ∧ ct = 18 ∨ t = 10 ∧ ct = 15) (hi : vp_in i (mu_n H (mu_p o))) (h : mu_HT run M (pc + 1, L, S, mu_sr H (mu_p o) i.toNatClampNeg v) Φ) : mu_HT run M (pc, L, .inr (.inr v) :: .inl i :: .inr (.inr o) :: S, H) Φ := by
  refine mu_s1 (ins := .aastore) (ops := ops) (fun go g hg => by unfold ev_body; rw [hg, hf]; rfl) (fun w c n hr => ?_) h
  obtain ⟨d, wr, a1, a2, a3⟩ := mu_atA hr ho
  have hct : ct < 100 := by omega
  obtain ⟨e1, e3⟩ := mu_atO hr hv hct
  obtain ⟨b1, b2⟩ := mu_ix hi
  refine mu_put_r hr ho (by rcases ht with ⟨rfl, -⟩ | ⟨rfl, -⟩ | ⟨rfl, -⟩ | ⟨rfl, -⟩ <;> rfl) a2 (ev_stepA_of ?_)
  show ev_aast (pc, mu_m L, mu_v (.inr (.inr v)) :: .inl (.int i) :: mu_v (.inr (.inr o)) :: S.map mu_v, w, c, n) = _
  rw [a3, e3]
  unfold ev_aast
  dsimp only
  rw [a1]
  have hm : (Nat.ble 4 t && Nat.ble t 10 && ev_may (ev_tcl t).1 (ev_tcl t).2 w (.inl (.ref (mu_p v)))) = true := by
    unfold ev_may
    dsimp only
    rw [e1]
    rcases ht with ⟨rfl, rfl⟩ | ⟨rfl, rfl⟩ | ⟨rfl, rfl⟩ | ⟨rfl, rfl⟩ <;> rfl
  show (bif (Nat.ble 4 t && Nat.ble t 10 && ev_may (ev_tcl t).1 (ev_tcl t).2 w (.inl (.ref (mu_p v)))) then (match ev_ix (mu_n H (mu_p o)) (.inl (.int i)) with | some i => some (pc + 1, mu_m L, S.map mu_v, w.set (mu_p o) (.inr (t, mu_n H (mu_p o), d, (i, .inl (.ref (mu_p v))) :: wr)), c, n) | none => none) else _) = _
  rw [hm, b1]
  rfl
/-- an array of booleans stored into an array of such -/
theorem mu_aastZ {pc : Nat} {ops : List Nat} {L : mu_L} {S : List mu_V} {v o : Option Nat} {i : Int32} {H : mu_H} {Φ : mu_R → Prop} (hf : ev_find M.2.2.2 pc = some (.aastore, ops)) (ho : mu_is H o 105) (hv : mu_is H v 108) (hi : vp_in i (mu_n H (mu_p o))) (h : mu_HT run M (pc + 1, L, S, mu_sr H (mu_p o) i.toNatClampNeg v) Φ) : mu_HT run M (pc, L, .inr (.inr v) :: .inl i :: .inr (.inr o) :: S, H) Φ := by
  refine mu_s1 (ins := .aastore) (ops := ops) (fun go g hg => by unfold ev_body; rw [hg, hf]; rfl) (fun w c n hr => ?_) h
  obtain ⟨d, wr, a1, a2, a3⟩ := mu_atA (t := 5) hr ho
  obtain ⟨d2, wr2, e1, e2, e3⟩ := mu_atA (t := 8) hr hv
  obtain ⟨b1, b2⟩ := mu_ix hi
  refine mu_put_r (t := 5) hr ho rfl a2 (ev_stepA_of ?_)
  show ev_aast (pc, mu_m L, mu_v (.inr (.inr v)) :: .inl (.int i) :: mu_v (.inr (.inr o)) :: S.map mu_v, w, c, n) = _
  rw [a3, e3]
  unfold ev_aast
  dsimp only
  rw [a1]
  have hm : (Nat.ble 4 5 && Nat.ble 5 10 && ev_may (ev_tcl 5).1 (ev_tcl 5).2 w (.inl (.ref (mu_p v)))) = true := by
    unfold ev_may
    dsimp only
    rw [e1]
    rfl
  show (bif (Nat.ble 4 5 && Nat.ble 5 10 && ev_may (ev_tcl 5).1 (ev_tcl 5).2 w (.inl (.ref (mu_p v)))) then (match ev_ix (mu_n H (mu_p o)) (.inl (.int i)) with | some i => some (pc + 1, mu_m L, S.map mu_v, w.set (mu_p o) (.inr (5, mu_n H (mu_p o), d, (i, .inl (.ref (mu_p v))) :: wr)), c, n) | none => none) else _) = _
  rw [hm, b1]
  rfl
/-- a String stored into an array of Strings -/
theorem mu_aastS {pc : Nat} {ops : List Nat} {L : mu_L} {S : List mu_V} {v o : Option Nat} {i : Int32} {H : mu_H} {Φ : mu_R → Prop} (hf : ev_find M.2.2.2 pc = some (.aastore, ops)) (ho : mu_is H o 103) (hv : mu_sg H v) (hi : vp_in i (mu_n H (mu_p o))) (h : mu_HT run M (pc + 1, L, S, mu_sr H (mu_p o) i.toNatClampNeg v) Φ) : mu_HT run M (pc, L, .inr (.inr v) :: .inl i :: .inr (.inr o) :: S, H) Φ := by
  refine mu_s1 (ins := .aastore) (ops := ops) (fun go g hg => by unfold ev_body; rw [hg, hf]; rfl) (fun w c n hr => ?_) h
  obtain ⟨d, wr, a1, a2, a3⟩ := mu_atA (t := 3) hr ho
  obtain ⟨b1, b2⟩ := mu_ix hi
  rcases hv with hv | hv
  · obtain ⟨j, hj, ej, vj⟩ := mu_str_v hv
    refine mu_put_r (t := 3) hr ho rfl a2 (ev_stepA_of ?_)
    show ev_aast (pc, mu_m L, mu_v (.inr (.inr v)) :: .inl (.int i) :: mu_v (.inr (.inr o)) :: S.map mu_v, w, c, n) = _
    rw [a3, vj]
    unfold ev_aast
    dsimp only
    rw [a1]
    show ev_ast 3 (pc, mu_m L, .inl (.retAddr j) :: .inl (.int i) :: .inl (.ref (mu_p o)) :: S.map mu_v, w, c, n) = _
    unfold ev_ast
    dsimp only
    rw [a1]
    show (match ev_ix (mu_n H (mu_p o)) (.inl (.int i)), (bif Nat.blt j 79 then some (Sum.inl (Value.retAddr j)) else none) with | some i, some r => some (pc + 1, mu_m L, S.map mu_v, w.set (mu_p o) (.inr (3, mu_n H (mu_p o), d, (i, r) :: wr)), c, n) | _, _ => none) = _
    rw [b1, show Nat.blt j 79 = true from Nat.ble_eq_true_of_le hj]
    rfl
  · obtain ⟨e1, e3⟩ := mu_atO hr hv (by decide)
    refine mu_put_r (t := 3) hr ho rfl a2 ?_
    show ev_stepA ev_fds ev_jk ev_kb [] M.1 .aastore ops (pc, mu_m L, mu_v (.inr (.inr v)) :: .inl (.int i) :: mu_v (.inr (.inr o)) :: S.map mu_v, w, c, n) = _
    rw [a3, e3]
    refine ev_stepA_2 ?_ ?_
    · show ev_aast (pc, mu_m L, .inl (.ref (mu_p v)) :: .inl (.int i) :: .inl (.ref (mu_p o)) :: S.map mu_v, w, c, n) = none
      unfold ev_aast
      dsimp only
      rw [a1]
      show ev_ast 3 (pc, mu_m L, .inl (.ref (mu_p v)) :: .inl (.int i) :: .inl (.ref (mu_p o)) :: S.map mu_v, w, c, n) = none
      unfold ev_ast
      dsimp only
      rw [a1]
      show (match ev_ix (mu_n H (mu_p o)) (.inl (.int i)), (none : Option ev_V) with | some i, some r => some (pc + 1, mu_m L, S.map mu_v, w.set (mu_p o) (.inr (3, mu_n H (mu_p o), d, (i, r) :: wr)), c, n) | _, _ => none) = none
      rw [b1]
    · show (match w[mu_p o]?, w[mu_p v]? with | some (.inr (u, N, d, wr)), some (.inl (cj, _)) => (bif Nat.beq 3 u && Nat.beq cj 19 then (match ev_ix N (.inl (.int i)) with | some i => some (pc + 1, mu_m L, S.map mu_v, w.set (mu_p o) (.inr (u, N, d, (i, .inl (.ref (mu_p v))) :: wr)), c, n) | none => none) else none) | _, _ => none) = _
      rw [a1, e1]
      show (match ev_ix (mu_n H (mu_p o)) (.inl (.int i)) with | some i => some (pc + 1, mu_m L, S.map mu_v, w.set (mu_p o) (.inr (3, mu_n H (mu_p o), d, (i, .inl (.ref (mu_p v))) :: wr)), c, n) | none => none) = _
      rw [b1]
/-- a String's bytes, its coder -/
theorem mu_getS0 {pc idx pl : Nat} {L : mu_L} {S : List mu_V} {o : Option Nat} {H : mu_H} {Φ : mu_R → Prop} (hf : ev_find M.2.2.2 pc = some (.getfield idx, [pl, 0])) (ho : mu_is H o 19) (h : mu_HT run M (pc + 3, L, .inr (.inr (mu_r H (mu_p o) 0)) :: S, H) Φ) : mu_HT run M (pc, L, .inr (.inr o) :: S, H) Φ := by
  refine mu_s1 (ins := .getfield idx) (ops := [pl, 0]) (fun go g hg => by unfold ev_body; rw [hg, hf]; rfl) (fun w c n hr => ?_) h
  obtain ⟨a1, a2⟩ := mu_atO hr ho (by decide)
  refine mu_keep hr rfl ?_
  show ev_stepA ev_fds ev_jk ev_kb [] M.1 (.getfield idx) [pl, 0] (pc, mu_m L, mu_v (.inr (.inr o)) :: S.map mu_v, w, c, n) = _
  rw [a2]
  refine ev_stepA_2 rfl ?_
  show (match w[mu_p o]? with | some (.inl (cj, fs)) => (bif Nat.beq cj 19 && Nat.blt 0 2 then (match fs[0]? with | some v => some (pc + 3, mu_m L, v :: S.map mu_v, w, c, n) | none => none) else none) | _ => none) = _
  rw [a1]
  rfl
theorem mu_getS1 {pc idx pl : Nat} {L : mu_L} {S : List mu_V} {o : Option Nat} {H : mu_H} {Φ : mu_R → Prop} (hf : ev_find M.2.2.2 pc = some (.getfield idx, [pl, 1])) (ho : mu_is H o 19) (h : mu_HT run M (pc + 3, L, .inl (mu_i H (mu_p o) 1) :: S, H) Φ) : mu_HT run M (pc, L, .inr (.inr o) :: S, H) Φ := by
  refine mu_s1 (ins := .getfield idx) (ops := [pl, 1]) (fun go g hg => by unfold ev_body; rw [hg, hf]; rfl) (fun w c n hr => ?_) h
  obtain ⟨a1, a2⟩ := mu_atO hr ho (by decide)
  refine mu_keep hr rfl ?_
  show ev_stepA ev_fds ev_jk ev_kb [] M.1 (.getfield idx) [pl, 1] (pc, mu_m L, mu_v (.inr (.inr o)) :: S.map mu_v, w, c, n) = _
  rw [a2]
  refine ev_stepA_2 rfl ?_
  show (match w[mu_p o]? with | some (.inl (cj, fs)) => (bif Nat.beq cj 19 && Nat.blt 1 2 then (match fs[1]? with | some v => some (pc + 3, mu_m L, v :: S.map mu_v, w, c, n) | none => none) else none) | _ => none) = _
  rw [a1]
  rfl
/-- a byte into a field -/
theorem mu_putB {pc idx kd pl ci k p5 p6 : Nat} {L : mu_L} {S : List mu_V} {v : Int32} {o : Option Nat} {H : mu_H} {Φ : mu_R → Prop} (hf : ev_find M.2.2.2 pc = some (.putfield idx, [kd, pl, ci, k, p5, p6])) (hci : ci < 100) (hft : (mu_ft ci)[k]? = some 4) (ho : mu_is H o ci) (hv : narrow .byte (.int v) = .int v ∧ fits .byte (.int v) = true) (h : mu_HT run M (pc + 3, L, S, mu_si H (mu_p o) k v) Φ) : mu_HT run M (pc, L, .inl v :: .inr (.inr o) :: S, H) Φ := by
  refine mu_s1 (ins := .putfield idx) (ops := [kd, pl, ci, k, p5, p6]) (fun go g hg => by unfold ev_body; rw [hg, hf]; rfl) (fun w c n hr => ?_) h
  obtain ⟨a1, a2⟩ := mu_atO hr ho hci
  have hset : (mu_fs H (mu_p o) 0 (mu_ft ci)).set k (mu_v (.inl v)) = mu_fs (mu_si H (mu_p o) k v) (mu_p o) 0 (mu_ft ci) := by
    refine mu_fs_set 0 (mu_ft ci) _ hft ?_ ?_
    · rw [Nat.zero_add]
      show Sum.inl (mu_i (mu_si H (mu_p o) k v) (mu_p o) k) = _
      rw [mu_i_si, if_pos ⟨rfl, rfl⟩]
    · intro i tc' hi
      unfold mu_f
      split
      · rfl
      · rfl
      · rw [mu_i_si, if_neg (fun z => hi (by rw [Nat.zero_add]; exact z.2))]
  refine mu_put (q := mu_p o) (x := .inl (ci, mu_fs (mu_si H (mu_p o) k v) (mu_p o) 0 (mu_ft ci))) hr rfl rfl rfl ho.2.1 ⟨ho.2.2, hci, rfl⟩ (fun p hp => mu_same_si hp) ?_
  show ev_stepA ev_fds ev_jk ev_kb [] M.1 (.putfield idx) [kd, pl, ci, k, p5, p6] (pc, mu_m L, .inl (.int v) :: mu_v (.inr (.inr o)) :: S.map mu_v, w, c, n) = _
  rw [a2]
  refine ev_stepA_2 rfl ?_
  have hl : Nat.blt k (mu_fs H (mu_p o) 0 (mu_ft ci)).length = true := by
    rw [mu_fs_len]
    have := (List.getElem?_eq_some_iff.mp hft).1
    exact Nat.ble_eq_true_of_le this
  show (match w[mu_p o]? with | some (.inl (cj, fs)) => (bif Nat.beq ci cj && (decide (narrow .byte (Value.int v) = Value.int v) && fits .byte (Value.int v)) && Nat.blt k fs.length then some (pc + 3, mu_m L, S.map mu_v, w.set (mu_p o) (.inl (cj, fs.set k (.inl (.int v)))), c, n) else none) | _ => none) = _
  rw [a1]
  show (bif Nat.beq ci ci && (decide (narrow .byte (Value.int v) = Value.int v) && fits .byte (Value.int v)) && Nat.blt k (mu_fs H (mu_p o) 0 (mu_ft ci)).length then some (pc + 3, mu_m L, S.map mu_v, w.set (mu_p o) (.inl (ci, (mu_fs H (mu_p o) 0 (mu_ft ci)).set k (mu_v (.inl v)))), c, n) else none) = _
  rw [Nat.beq_refl, decide_eq_true hv.1, hv.2, hl, hset]
  rfl
/-- a new array of booleans -/
theorem mu_newz {pc pl : Nat} {ty : ArrayType} {L : mu_L} {S : List mu_V} {x : Int32} {H : mu_H} {Φ : mu_R → Prop} (hf : ev_find M.2.2.2 pc = some (.newarray ty, [pl, 8])) (hx : ¬ x < 0) (hz : mu_z H + 1 ≤ 1000000) (hb : x.toNatClampNeg ≤ 536870912) (h : mu_HT run M (pc + 2, L, .inr (.inr (some (mu_z H))) :: S, mu_nw H 108 x.toNatClampNeg x.toNatClampNeg) Φ) : mu_HT run M (pc, L, .inl x :: S, H) Φ := by
  refine mu_s1 (ins := .newarray ty) (ops := [pl, 8]) (fun go g hg => by unfold ev_body; rw [hg, hf]; rfl) (fun w c n hr => ?_) h
  have hp : mu_rep (mu_nw H 108 x.toNatClampNeg x.toNatClampNeg) (w ++ [.inr (8, x.toNatClampNeg, ev_dflt 8, [])]) := by
    refine mu_rep_push hr hz ⟨by rw [mu_k_nw, if_pos rfl], by rw [mu_n_nw, if_pos rfl], fun i hi => ?_⟩
    show ev_dflt 8 = mu_v (.inl (mu_i (mu_nw H 108 x.toNatClampNeg x.toNatClampNeg) (mu_z H) i))
    rw [mu_i_nw, if_pos rfl]
    rfl
  refine ⟨_, ev_stepA_of ?_, hp, by rw [mu_c_nw]; exact Nat.le_succ _, by rw [mu_s_nw]; exact Nat.le_add_right _ _⟩
  show (bif decide (x < 0) then none else bif Nat.ble (x.toNatClampNeg * 1) 536870912 then some (pc + 2, mu_m L, Sum.inl (Value.ref w.length) :: S.map mu_v, w ++ [.inr (8, x.toNatClampNeg, ev_dflt 8, [])], c + 1, n + x.toNatClampNeg) else none) = _
  rw [decide_eq_false hx, Nat.ble_eq_true_of_le (by omega)]
  show some (pc + 2, mu_m L, Sum.inl (Value.ref w.length) :: S.map mu_v, w ++ [.inr (8, x.toNatClampNeg, ev_dflt 8, [])], c + 1, n + x.toNatClampNeg) = some (pc + 2, mu_m L, mu_v (.inr (.inr (some (mu_z H)))) :: S.map mu_v, w ++ [.inr (8, x.toNatClampNeg, ev_dflt 8, [])], c + (mu_c H + 1 - mu_c H), n + (mu_s H + x.toNatClampNeg - mu_s H))
  rw [mu_v_ref (by omega), hr.1, Nat.add_sub_cancel_left, Nat.add_sub_cancel_left]
/-- the ints of one array as those of a new one -/
def mu_cpy (H : mu_H) (q : Nat) : mu_H := (H.1, H.2.1, (fun p i => if p + 1 = H.2.2.2.2.2.1 then H.2.2.1 q i else H.2.2.1 p i), H.2.2.2.1, H.2.2.2.2.1, H.2.2.2.2.2.1, H.2.2.2.2.2.2.1, H.2.2.2.2.2.2.2)
/-- an array of bytes, cloned -/
theorem mu_clone {pc idx pl : Nat} {L : mu_L} {S : List mu_V} {o : Option Nat} {H : mu_H} {Φ : mu_R → Prop} (hf : ev_find M.2.2.2 pc = some (.invokevirtual idx, [pl])) (ho : mu_is H o 101) (hby : ∀ i, i < mu_n H (mu_p o) → fits .byte (.int (mu_i H (mu_p o) i)) = true) (hS : mu_wds S ≤ 8) (hz : mu_z H + 1 ≤ 1000000) (h : mu_HT run M (pc + 3, L, .inr (.inr (some (mu_z H))) :: S, mu_cpy (mu_nw H 101 (mu_n H (mu_p o)) (mu_n H (mu_p o))) (mu_p o)) Φ) : mu_HT run M (pc, L, .inr (.inr o) :: S, H) Φ := by
  refine mu_ev1 (fun w c n hr => ?_) h
  have hr : mu_rep H w := hr
  obtain ⟨d, wr, a1, a2, a3⟩ := mu_atA (t := 1) hr ho
  have hne : mu_p o ≠ mu_z H := by have := ho.2.1; omega
  have hp : mu_rep (mu_cpy (mu_nw H 101 (mu_n H (mu_p o)) (mu_n H (mu_p o))) (mu_p o)) (w ++ [.inr (1, mu_n H (mu_p o), d, wr)]) := by
    have hsame : ∀ p, p ≠ mu_z H → mu_same H (mu_cpy (mu_nw H 101 (mu_n H (mu_p o)) (mu_n H (mu_p o))) (mu_p o)) p := by
      intro p hp
      obtain ⟨s1, s2, s3⟩ := mu_same_nw (H := H) (kd := 101) (len := mu_n H (mu_p o)) (sl := mu_n H (mu_p o)) hp
      refine ⟨s1, s2, fun j tc => ?_⟩
      rw [← s3 j tc]
      unfold mu_f
      split
      · rfl
      · rfl
      · show Sum.inl (if p + 1 = mu_z H + 1 then _ else mu_i (mu_nw H 101 (mu_n H (mu_p o)) (mu_n H (mu_p o))) p j) = _
        rw [if_neg (by omega)]
    refine ⟨by rw [List.length_append, hr.1]; rfl, ⟨hz, mu_ot_same hr.2.1.2 (fun p hp => hsame p (by omega))⟩, fun p y hy => ?_⟩
    by_cases e : p < w.length
    · rw [List.getElem?_append_left e] at hy
      exact mu_cell_same (hsame p (by have := hr.1; omega)) (hr.2.2 p y hy)
    · have hl := (List.getElem?_eq_some_iff.mp hy).1
      simp at hl
      have ep : p = w.length := by omega
      subst ep
      simp at hy
      subst hy
      rw [hr.1]
      refine ⟨?_, ?_, fun i hi => ?_⟩
      · show (if mu_z H = mu_z H then 101 else mu_k H (mu_z H)) = 100 + 1
        rw [if_pos rfl]
      · show (if mu_z H = mu_z H then mu_n H (mu_p o) else mu_n H (mu_z H)) = _
        rw [if_pos rfl]
      · rw [a2 i hi]
        show mu_v (.inl (mu_i H (mu_p o) i)) = mu_v (.inl (if mu_z H + 1 = mu_z H + 1 then (if mu_p o = mu_z H then 0 else mu_i H (mu_p o) i) else _))
        rw [if_pos rfl, if_neg hne]
  refine ⟨_, hp, Nat.le_succ _, Nat.le_add_right _ _, fun go => ?_⟩
  unfold ev_body
  have hf' : ev_find M.2.2.2 (mu_e (pc, L, .inr (.inr o) :: S, H) w c n).1 = some (.invokevirtual idx, [pl]) := hf
  rw [hf']
  show (match ev_clone (pc, mu_m L, mu_v (.inr (.inr o)) :: S.map mu_v, w, c, n) with | some f1 => go f1 | none => none) = _
  rw [a3]
  have hbo : ∀ k, k ≤ mu_n H (mu_p o) → ev_bytesOk d wr 0 k = true := by
    intro k
    induction k with
    | zero => intro _; rfl
    | succ k ih =>
      intro hk
      show (ev_isb (ev_at d wr (0 + k)) && ev_bytesOk d wr 0 k) = true
      rw [ih (by omega), Bool.and_true, Nat.zero_add, a2 k (by omega)]
      exact hby k (by omega)
  have hw8 : Nat.ble (ev_wds (S.map mu_v)) 8 = true := by rw [mu_wds_m]; exact Nat.ble_eq_true_of_le hS
  unfold ev_clone
  dsimp only
  rw [a1]
  show (match (bif Nat.beq 1 1 && ev_bytesOk d wr 0 (mu_n H (mu_p o)) && Nat.ble (ev_wds (S.map mu_v)) 8 then some (pc + 3, mu_m L, Sum.inl (Value.ref w.length) :: S.map mu_v, w ++ [.inr (1, mu_n H (mu_p o), d, wr)], c + 1, n + mu_n H (mu_p o)) else none) with | some f1 => go f1 | none => none) = _
  rw [hbo _ (Nat.le_refl _), hw8]
  show go (pc + 3, mu_m L, Sum.inl (Value.ref w.length) :: S.map mu_v, w ++ [.inr (1, mu_n H (mu_p o), d, wr)], c + 1, n + mu_n H (mu_p o)) = go (pc + 3, mu_m L, mu_v (.inr (.inr (some (mu_z H)))) :: S.map mu_v, w ++ [.inr (1, mu_n H (mu_p o), d, wr)], c + (mu_c H + 1 - mu_c H), n + (mu_s H + mu_n H (mu_p o) - mu_s H))
  rw [mu_v_ref (by omega), hr.1, Nat.add_sub_cancel_left, Nat.add_sub_cancel_left]
/-- a call of a String's method, a String of the world -/
theorem mu_callS {pc idx j na : Nat} {rest : List Nat} {L : mu_L} {S as S1 : List mu_V} {o : Option Nat} {H : mu_H} {Φ Ψ : mu_R → Prop} (hf : ev_find M.2.2.2 pc = some (.invokevirtual idx, j :: na :: 999 :: rest)) (hS : S.take na = as.reverse) (hS2 : S.drop na = .inr (.inr o) :: S1) (hn : as.length = na) (hw : mu_wds S1 ≤ 8) (ho : mu_is H o 19) (hT : mu_MT run j (.inr (.inr o) :: as) H Ψ) (hk : ∀ r, Ψ r → ∃ v, r.1 = .inl v ∧ mu_HT run M (pc + 3, L, v.toList ++ S1, r.2) Φ) : mu_HT run M (pc, L, S, H) Φ := by
  intro w c n hr
  obtain ⟨r, res, g1, g2, g3⟩ := hT w hr
  obtain ⟨q1, q2, q3, q4, q5, q6⟩ := g2
  obtain ⟨x1, x3⟩ := mu_atO hr ho (by decide)
  have hrc : ev_body.ev_recv ev_jk w 999 (mu_v (.inr (.inr o))) = true := by
    rw [x3]
    unfold ev_body.ev_recv
    dsimp only
    rw [x1]
    rfl
  have hl : Nat.beq ((S.take na).reverse.map mu_v).length na = true := by rw [hS, List.reverse_reverse, List.length_map, hn]; exact Nat.beq_refl _
  have hwd : Nat.ble (ev_wds (S1.map mu_v)) 8 = true := by rw [mu_wds_m]; exact Nat.ble_eq_true_of_le hw
  have has : (S.take na).reverse.map mu_v = as.map mu_v := by rw [hS, List.reverse_reverse]
  obtain ⟨v, hv, hk⟩ := hk r g3
  obtain ⟨res1, res2, res3, res4⟩ := res
  have e1 : res1 = mu_out r := q1
  unfold mu_out at e1
  rw [hv] at e1
  subst e1
  obtain ⟨r', fuel, res', b1, b2, b3⟩ := hk res2 (c + res3) (n + res4) q2
  refine ⟨r', fuel + 1, res', ?_, ?_, b3⟩
  · show ev_body (fun r => bif ev_rok M.2.1 M.2.2.1 r then some r else none) run ev_fds ev_jk ev_kb [] M.1 M.2.2.1 M.2.2.2 (ev_loop M.2.1 run ev_fds ev_jk ev_kb [] M.1 M.2.2.1 M.2.2.2 fuel) (pc, mu_m L, S.map mu_v, w, c, n) = _
    unfold ev_body
    dsimp only
    rw [hf]
    dsimp only
    rw [mu_take, hS2]
    dsimp only [List.map]
    rw [hl, hwd, hrc, has]
    have g1 : run j (mu_v (.inr (.inr o)) :: as.map mu_v) w = some (.inl (v.map mu_v), res2, res3, res4) := g1
    rw [g1]
    show ev_loop M.2.1 run ev_fds ev_jk ev_kb [] M.1 M.2.2.1 M.2.2.2 fuel (pc + 3, mu_m L, ev_opt (v.map mu_v) ++ S1.map mu_v, res2, c + res3, n + res4) = _
    rw [mu_opt, ← List.map_append]
    exact b1
  · have q3 : res3 = 0 + (mu_c r.2 - mu_c H) := q3
    have q4 : res4 = 0 + (mu_s r.2 - mu_s H) := q4
    rw [Nat.zero_add] at q3 q4
    rw [q3, q4] at b2
    exact mu_res_from q5 q6 b2
end MuNew
