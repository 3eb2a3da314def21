/-! Every step of a frame is the evaluator's -/
theorem ev_oty_le (kb : List (List Int32)) (j : Nat) : ev_oty kb j = 0 ∨ ev_oty kb j = 1 := by
  unfold ev_oty
  cases Nat.beq (j - 1000 + 1) kb.length
  · exact Or.inr rfl
  · exact Or.inl rfl
theorem mu_v_out {j : Nat} (h : j < ev_kb.length) : mu_v (.inr (.inr (some (1001000 + j)))) = .inl (.retAddr (1000 + j)) := by
  have hj : j < 80 := h
  show (bif Nat.ble 1000000 (1001000 + j) then (bif Nat.beq (1001000 + j) 3000000 then _ else _) else _) = _
  rw [Nat.ble_eq_true_of_le (show 1000000 ≤ 1001000 + j by omega)]
  have : Nat.beq (1001000 + j) 3000000 = false := by
    cases hb : Nat.beq (1001000 + j) 3000000 with
    | false => rfl
    | true => exact absurd (Nat.eq_of_beq_eq_true hb) (by omega)
  rw [this]
  show Sum.inl (Value.retAddr (1001000 + j - 1000000)) = _
  rw [show 1001000 + j - 1000000 = 1000 + j by omega]
theorem mu_v_lit {j : Nat} (h : j < 1000000) : mu_v (.inr (.inr (some (1000000 + j)))) = .inl (.retAddr j) := by
  show (bif Nat.ble 1000000 (1000000 + j) then (bif Nat.beq (1000000 + j) 3000000 then _ else _) else _) = _
  rw [Nat.ble_eq_true_of_le (Nat.le_add_right 1000000 j)]
  have : Nat.beq (1000000 + j) 3000000 = false := by
    cases hb : Nat.beq (1000000 + j) 3000000 with
    | false => rfl
    | true => exact absurd (Nat.eq_of_beq_eq_true hb) (by omega)
  rw [this]
  show Sum.inl (Value.retAddr (1000000 + j - 1000000)) = _
  rw [Nat.add_sub_cancel_left]
theorem mu_str_v {o : Option Nat} (h : mu_str o) : ∃ j, j < ev_jk ∧ mu_p o = 1000000 + j ∧ mu_v (.inr (.inr o)) = .inl (.retAddr j) := by
  obtain ⟨h1, h2, h3⟩ := h
  obtain ⟨j, ej⟩ : ∃ j, mu_p o = 1000000 + j := ⟨mu_p o - 1000000, by omega⟩
  have hj : j < 79 := by have h3 : mu_p o < 1000000 + 79 := h3; omega
  refine ⟨j, hj, ej, ?_⟩
  rw [h1, ej]
  exact mu_v_lit (by omega)
theorem mu_ald_ok {t tc c n : Nat} {f f1 : mu_F} {C : List Prop} {w : List ev_C} (htc : mu_et t = tc) (hr : mu_rep f.2.2.2 w) (h : mu_al t tc f = some (f1, C)) (hC : mu_all C) : mu_to (ev_ald t ev_kb [] (mu_e f w c n)) f f1 c n := by
  unfold mu_al at h
  split at h
  · rename_i pc L i o S H
    cases h
    obtain ⟨⟨g1, g2, g3⟩, h2⟩ := hC
    have h2 : vp_in i (mu_n H (mu_p o)) := h2
    rcases g2 with g2 | ⟨g2, g4⟩
    · obtain ⟨d, wr, a1, a2, a3⟩ := mu_atA hr (show mu_is H o (100 + t) from ⟨g1, g2, g3⟩)
      obtain ⟨b1, b2⟩ := mu_ix h2
      refine mu_keep hr rfl ?_
      show ev_ald t ev_kb [] (pc, mu_m L, .inl (.int i) :: mu_v (.inr (.inr o)) :: S.map mu_v, w, c, n) = _
      rw [a3]
      unfold ev_ald
      dsimp only
      rw [a1]
      have hb : Nat.beq t t = true := Nat.beq_refl t
      show (bif Nat.beq t t then (match ev_ix (mu_n H (mu_p o)) (.inl (.int i)) with | some i => some (pc + 1, mu_m L, ev_at d wr i :: S.map mu_v, w, c, n) | none => none) else none) = _
      rw [hb, b1]
      show some (pc + 1, mu_m L, ev_at d wr i.toNatClampNeg :: S.map mu_v, w, c, n) = _
      rw [a2 _ b2, htc]
      rfl
    · obtain ⟨j, ej⟩ : ∃ j, mu_p o = 1001000 + j := ⟨mu_p o - 1001000, by omega⟩
      have hj : j < ev_kb.length := by omega
      obtain ⟨y1, y2, y3⟩ := hr.2.1.2 j hj
      have y1 : mu_k H (1001000 + j) = 100 + ev_oty ev_kb (1000 + j) := y1
      have y2 : mu_n H (1001000 + j) = (ev_kb.getD j []).length := y2
      have y3 : mu_i H (1001000 + j) i.toNatClampNeg = (ev_kb.getD j []).getD i.toNatClampNeg 0 := y3 _
      have g3 : mu_k H (mu_p o) = 100 + t := g3
      rw [ej] at g3 h2
      have et : ev_oty ev_kb (1000 + j) = t := by omega
      rw [y2] at h2
      obtain ⟨b1, b2⟩ := mu_ix h2
      refine mu_keep hr rfl ?_
      have ov : mu_v (.inr (.inr o)) = .inl (.retAddr (1000 + j)) := by rw [g1, ej]; exact mu_v_out hj
      have htc0 : tc = 0 := by
        rcases ev_oty_le ev_kb (1000 + j) with e | e
        · rw [← htc, ← et, e]; rfl
        · rw [← htc, ← et, e]; rfl
      show ev_ald t ev_kb [] (pc, mu_m L, .inl (.int i) :: mu_v (.inr (.inr o)) :: S.map mu_v, w, c, n) = some (pc + 1, mu_m L, mu_v (mu_f H (mu_p o) i.toNatClampNeg tc) :: S.map mu_v, w, c, n)
      rw [ov, htc0, ej]
      unfold ev_ald
      dsimp only
      rw [et, Nat.add_sub_cancel_left, Nat.beq_refl, Nat.ble_eq_true_of_le (Nat.le_add_right 1000 j), show Nat.blt j ev_kb.length = true from Nat.ble_eq_true_of_le hj]
      show (match ev_ix (ev_kb.getD j []).length (.inl (.int i)) with | some i => some (pc + 1, mu_m L, .inl (.int ((ev_kb.getD j []).getD i 0)) :: S.map mu_v, w, c, n) | none => none) = some (pc + 1, mu_m L, .inl (.int (mu_i H (1001000 + j) i.toNatClampNeg)) :: S.map mu_v, w, c, n)
      rw [b1, y3]
  · cases h
theorem mu_at_cons {d r : ev_V} {wr : List (Nat × ev_V)} {i j : Nat} {v : mu_V} {g : Nat → mu_V} (h : ev_at d wr j = mu_v (g j)) (hr : r = mu_v v) : ev_at d ((i, r) :: wr) j = mu_v (if j = i then v else g j) := by
  rw [ev_at_cons]
  by_cases e : i = j
  · subst e
    rw [if_pos rfl, if_pos rfl, hr]
  · rw [if_neg e, if_neg (Ne.symm e), h]
set_option maxHeartbeats 4000000 in
theorem mu_x_ok {own nm : String} {pc0 : Nat} {ins : Instr} {ops : List Nat} {nL c n : Nat} {f f1 : mu_F} {C : List Prop} {w : List ev_C} (hok : ev_ok2 own nm pc0 ins ops = true) (h : mu_x ins ops nL f = some (f1, C)) (hC : mu_all C) (hr : mu_rep f.2.2.2 w) : mu_to (ev_step ev_fds ev_jk ev_kb [] nL ins ops (mu_e f w c n)) f f1 c n := by
  unfold mu_x at h
  split at h
  · cases h; exact mu_keep hr rfl rfl
  · cases h; exact mu_keep hr rfl rfl
  · cases h; exact mu_keep hr rfl rfl
  · split at h
    · cases h; exact mu_keep hr rfl rfl
    · rename_i a b j
      obtain ⟨h1, h2⟩ := mu_some h
      cases h2
      refine mu_keep hr rfl ?_
      show some (f.1 + 2, mu_m f.2.1, Sum.inl (Value.retAddr j) :: f.2.2.1.map mu_v, w, c, n) = some (f.1 + 2, mu_m f.2.1, mu_v (.inr (.inr (some (1000000 + j)))) :: f.2.2.1.map mu_v, w, c, n)
      rw [mu_v_lit (ev_blt h1)]
    · cases h
  · split at h
    · cases h; exact mu_keep hr rfl rfl
    · rename_i a b j
      obtain ⟨h1, h2⟩ := mu_some h
      cases h2
      refine mu_keep hr rfl ?_
      show some (f.1 + 3, mu_m f.2.1, Sum.inl (Value.retAddr j) :: f.2.2.1.map mu_v, w, c, n) = some (f.1 + 3, mu_m f.2.1, mu_v (.inr (.inr (some (1000000 + j)))) :: f.2.2.1.map mu_v, w, c, n)
      rw [mu_v_lit (ev_blt h1)]
    · cases h
  · split at h
    · cases h; exact mu_keep hr rfl rfl
    · cases h
  · cases h; exact mu_keep hr rfl rfl
  · cases h; exact mu_keep hr rfl rfl
  · exact mu_ld_ok mu_v_I hr h
  · exact mu_ld_ok mu_v_I hr h
  · exact mu_ld_ok mu_v_R hr h
  · exact mu_ld_ok mu_v_R hr h
  · exact mu_ld_ok mu_v_L hr h
  · exact mu_ld_ok mu_v_L hr h
  · exact mu_st_ok mu_v_I hr h
  · exact mu_st_ok mu_v_I hr h
  · exact mu_st_ok mu_v_R hr h
  · exact mu_st_ok mu_v_R hr h
  · exact mu_st2_ok hr h
  · exact mu_st2_ok hr h
  · -- iinc
    rename_i k d
    obtain ⟨pc, L, S, H⟩ := f
    dsimp only at h
    split at h
    · rename_i x hx
      obtain ⟨h1, h2⟩ := mu_some h
      cases h2
      refine mu_keep hr rfl ?_
      show ev_step ev_fds ev_jk ev_kb [] nL (.iinc k d) ops (pc, mu_m L, S.map mu_v, w, c, n) = _
      unfold ev_step
      dsimp only
      rw [mu_look_m, hx]
      show (bif Nat.blt k nL then some (pc + 3, (k, Sum.inl (Value.int (x + Int32.ofInt d))) :: ev_del (mu_m L) k, S.map mu_v, w, c, n) else none) = _
      rw [h1, mu_del_m]
      rfl
    · cases h
  · -- dup
    split at h
    · rename_i pc L a S H
      obtain ⟨h1, h2⟩ := mu_some h
      cases h2
      refine mu_keep hr rfl ?_
      show (bif ev_c1 (mu_v a) then some (pc + 1, mu_m L, mu_v a :: mu_v a :: S.map mu_v, w, c, n) else none) = _
      rw [mu_v_c1, h1]
      rfl
    · cases h
  · split at h
    · rename_i pc L a b S H
      obtain ⟨h1, h2⟩ := mu_some h
      cases h2
      refine mu_keep hr rfl ?_
      show (bif ev_c1 (mu_v a) && ev_c1 (mu_v b) then some (pc + 1, mu_m L, mu_v a :: mu_v b :: mu_v a :: S.map mu_v, w, c, n) else none) = _
      rw [mu_v_c1, mu_v_c1, h1]
      rfl
    · cases h
  · split at h
    · rename_i pc L a b S H
      obtain ⟨h1, h2⟩ := mu_some h
      cases h2
      refine mu_keep hr rfl ?_
      show (bif ev_c1 (mu_v a) && ev_c1 (mu_v b) then some (pc + 1, mu_m L, mu_v a :: mu_v b :: mu_v a :: mu_v b :: S.map mu_v, w, c, n) else none) = _
      rw [mu_v_c1, mu_v_c1, h1]
      rfl
    · cases h
  · split at h
    · rename_i pc L a S H
      obtain ⟨h1, h2⟩ := mu_some h
      cases h2
      refine mu_keep hr rfl ?_
      show (bif ev_c1 (mu_v a) then some (pc + 1, mu_m L, S.map mu_v, w, c, n) else none) = _
      rw [mu_v_c1, h1]
      rfl
    · cases h
  · exact mu_b2_ok hr h
  · exact mu_b2_ok hr h
  · exact mu_b2_ok hr h
  · exact mu_b2_ok hr h
  · exact mu_b2_ok hr h
  · exact mu_b2_ok hr h
  · exact mu_b2_ok hr h
  · exact mu_b2_ok hr h
  · exact mu_b2_ok hr h
  · exact mu_b1_ok hr h
  · exact mu_b1_ok hr h
  · exact mu_b1_ok hr h
  · exact mu_b1_ok hr h
  · -- idiv
    split at h
    · rename_i pc L y x S H
      cases h
      refine mu_keep hr rfl ?_
      show (bif decide (y = 0) then none else some (pc + 1, mu_m L, Sum.inl (Value.int (x / y)) :: S.map mu_v, w, c, n)) = _
      have hy : ¬ y = 0 := hC
      rw [decide_eq_false hy]
      rfl
    · cases h
  · split at h
    · rename_i pc L y x S H
      cases h
      refine mu_keep hr rfl ?_
      show (bif decide (y = 0) then none else some (pc + 1, mu_m L, Sum.inl (Value.int (x - x / y * y)) :: S.map mu_v, w, c, n)) = _
      have hy : ¬ y = 0 := hC
      rw [decide_eq_false hy]
      rfl
    · cases h
  · split at h
    · cases h; exact mu_keep hr rfl rfl
    · cases h
  · split at h
    · cases h; exact mu_keep hr rfl rfl
    · cases h
  · split at h
    · cases h; exact mu_keep hr rfl rfl
    · cases h
  · exact mu_l2_ok hr h
  · exact mu_l2_ok hr h
  · exact mu_l2_ok hr h
  · exact mu_l2_ok hr h
  · exact mu_l2_ok hr h
  · exact mu_l2_ok hr h
  · split at h
    · rename_i pc L y x S H
      cases h
      refine mu_keep hr rfl ?_
      show (bif decide (y = 0) then none else some (pc + 1, mu_m L, Sum.inl (Value.long (x / y)) :: S.map mu_v, w, c, n)) = _
      have hy : ¬ y = 0 := hC
      rw [decide_eq_false hy]
      rfl
    · cases h
  · exact mu_ls_ok hr h
  · exact mu_ls_ok hr h
  · exact mu_ls_ok hr h
  · -- goto
    split at h
    · cases h; exact mu_keep hr rfl rfl
    · cases h
  · -- arraylength
    split at h
    · rename_i pc L o S H
      cases h
      obtain ⟨⟨g1, g2, g3⟩, h2⟩ := hC
      have h2 : 100 ≤ mu_k H (mu_p o) := h2
      obtain ⟨t, et⟩ : ∃ t, mu_k H (mu_p o) = 100 + t := ⟨mu_k H (mu_p o) - 100, by omega⟩
      rcases g2 with g2 | ⟨g2, g4⟩
      · obtain ⟨d, wr, a1, a2, a3⟩ := mu_atA hr (show mu_is H o (100 + t) from ⟨g1, g2, et⟩)
        refine mu_keep hr rfl ?_
        show ev_alen ev_kb [] (pc, mu_m L, mu_v (.inr (.inr o)) :: S.map mu_v, w, c, n) = _
        rw [a3]
        unfold ev_alen
        dsimp only
        rw [a1]
        rfl
      · obtain ⟨j, ej⟩ : ∃ j, mu_p o = 1001000 + j := ⟨mu_p o - 1001000, by omega⟩
        have hj : j < ev_kb.length := by omega
        have y2 : mu_n H (1001000 + j) = (ev_kb.getD j []).length := (hr.2.1.2 j hj).2.1
        have ov : mu_v (.inr (.inr o)) = .inl (.retAddr (1000 + j)) := by rw [g1, ej]; exact mu_v_out hj
        refine mu_keep hr rfl ?_
        show ev_alen ev_kb [] (pc, mu_m L, mu_v (.inr (.inr o)) :: S.map mu_v, w, c, n) = some (pc + 1, mu_m L, .inl (.int (Int32.ofNat (mu_n H (mu_p o)))) :: S.map mu_v, w, c, n)
        rw [ov, ej, y2]
        unfold ev_alen
        dsimp only
        rw [Nat.add_sub_cancel_left, Nat.ble_eq_true_of_le (Nat.le_add_right 1000 j), show Nat.blt j ev_kb.length = true from Nat.ble_eq_true_of_le hj]
        rfl
    · cases h
  · exact mu_ald_ok rfl hr h hC
  · exact mu_ald_ok rfl hr h hC
  · exact mu_ald_ok rfl hr h hC
  · -- aaload
    split at h
    · rename_i pc L i o S H
      cases h
      obtain ⟨h1, h2, h3⟩ := hC
      obtain ⟨t, et⟩ : ∃ t, mu_k H (mu_p o) = 100 + t := ⟨mu_k H (mu_p o) - 100, by omega⟩
      rw [et] at h1 h2
      obtain ⟨d, wr, a1, a2, a3⟩ := mu_atA hr h1
      obtain ⟨b1, b2⟩ := mu_ix h3
      have ht : mu_et t = 2 := by unfold mu_et; split <;> first | omega | rfl
      refine mu_keep hr rfl ?_
      show ev_aald (pc, mu_m L, .inl (.int i) :: mu_v (.inr (.inr o)) :: S.map mu_v, w, c, n) = _
      rw [a3]
      unfold ev_aald
      dsimp only
      rw [a1]
      have hc1 : (Nat.ble 3 t && Nat.ble t 10 && !Nat.beq t 8) = true := by
        have q1 : Nat.ble 3 t = true := Nat.ble_eq_true_of_le (by omega)
        have q2 : Nat.ble t 10 = true := Nat.ble_eq_true_of_le (by omega)
        have q3 : Nat.beq t 8 = false := by
          cases hb : Nat.beq t 8 with
          | false => rfl
          | true => have := Nat.eq_of_beq_eq_true hb; omega
        rw [q1, q2, q3]; rfl
      show (bif (Nat.ble 3 t && Nat.ble t 10 && !Nat.beq t 8) then (match ev_ix (mu_n H (mu_p o)) (.inl (.int i)) with | some i => (bif ev_isR (ev_at d wr i) then some (pc + 1, mu_m L, ev_at d wr i :: S.map mu_v, w, c, n) else none) | none => none) else none) = _
      rw [hc1, b1]
      show (bif ev_isR (ev_at d wr i.toNatClampNeg) then some (pc + 1, mu_m L, ev_at d wr i.toNatClampNeg :: S.map mu_v, w, c, n) else none) = _
      rw [a2 _ b2, ht]
      have hR : ev_isR (mu_v (mu_f H (mu_p o) i.toNatClampNeg 2)) = true := mu_v_isR _
      rw [hR]
      rfl
    · cases h
  · -- iastore
    split at h
    · rename_i pc L v i o S H
      cases h
      obtain ⟨h1, h2⟩ := hC
      obtain ⟨d, wr, a1, a2, a3⟩ := mu_atA (t := 0) hr h1
      obtain ⟨b1, b2⟩ := mu_ix h2
      refine mu_put (q := mu_p o) (x := .inr (0, mu_n H (mu_p o), d, (i.toNatClampNeg, .inl (.int v)) :: wr)) hr rfl rfl rfl h1.2.1 ⟨h1.2.2, rfl, fun j hj => ?_⟩ (fun p hp => mu_same_si hp) ?_
      · rw [mu_at_cons (r := .inl (.int v)) (v := .inl v) (g := fun j => mu_f H (mu_p o) j 0) (a2 j hj) rfl]
        show mu_v _ = mu_v (.inl (mu_i (mu_si H (mu_p o) i.toNatClampNeg v) (mu_p o) j))
        rw [mu_i_si]
        by_cases e : j = i.toNatClampNeg
        · rw [if_pos e, if_pos ⟨rfl, e⟩]
        · rw [if_neg e, if_neg (fun z => e z.2)]; rfl
      · show ev_ast 0 (pc, mu_m L, .inl (.int v) :: .inl (.int i) :: mu_v (.inr (.inr o)) :: S.map mu_v, w, c, n) = _
        rw [a3]
        unfold ev_ast
        dsimp only
        rw [a1]
        show (match ev_ix (mu_n H (mu_p o)) (.inl (.int i)), some (Sum.inl (Value.int v)) with | some i, some r => some (pc + 1, mu_m L, S.map mu_v, w.set (mu_p o) (.inr (0, mu_n H (mu_p o), d, (i, r) :: wr)), c, n) | _, _ => none) = _
        rw [b1]
    · cases h
  · -- bastore
    split at h
    · rename_i pc L v i o S H
      cases h
      obtain ⟨h1, h2⟩ := hC
      obtain ⟨d, wr, a1, a2, a3⟩ := mu_atA (t := 1) hr h1
      obtain ⟨b1, b2⟩ := mu_ix h2
      refine mu_put (q := mu_p o) (x := .inr (1, mu_n H (mu_p o), d, (i.toNatClampNeg, .inl (.int (vp_nar .byte v))) :: wr)) hr rfl rfl rfl h1.2.1 ⟨h1.2.2, rfl, fun j hj => ?_⟩ (fun p hp => mu_same_si hp) ?_
      · rw [mu_at_cons (r := .inl (.int (vp_nar .byte v))) (v := .inl (vp_nar .byte v)) (g := fun j => mu_f H (mu_p o) j 0) (a2 j hj) rfl]
        show mu_v _ = mu_v (.inl (mu_i (mu_si H (mu_p o) i.toNatClampNeg (vp_nar .byte v)) (mu_p o) j))
        rw [mu_i_si]
        by_cases e : j = i.toNatClampNeg
        · rw [if_pos e, if_pos ⟨rfl, e⟩]
        · rw [if_neg e, if_neg (fun z => e z.2)]; rfl
      · show ev_ast 1 (pc, mu_m L, .inl (.int v) :: .inl (.int i) :: mu_v (.inr (.inr o)) :: S.map mu_v, w, c, n) = _
        rw [a3]
        unfold ev_ast
        dsimp only
        rw [a1]
        show (match ev_ix (mu_n H (mu_p o)) (.inl (.int i)), some (Sum.inl (Value.int (vp_nar .byte v))) with | some i, some r => some (pc + 1, mu_m L, S.map mu_v, w.set (mu_p o) (.inr (1, mu_n H (mu_p o), d, (i, r) :: wr)), c, n) | _, _ => none) = _
        rw [b1]
    · cases h
  · -- lastore
    split at h
    · rename_i pc L v i o S H
      cases h
      obtain ⟨h1, h2⟩ := hC
      obtain ⟨d, wr, a1, a2, a3⟩ := mu_atA (t := 2) hr h1
      obtain ⟨b1, b2⟩ := mu_ix h2
      refine mu_put (q := mu_p o) (x := .inr (2, mu_n H (mu_p o), d, (i.toNatClampNeg, .inl (.long v)) :: wr)) hr rfl rfl rfl h1.2.1 ⟨h1.2.2, rfl, fun j hj => ?_⟩ (fun p hp => mu_same_sl hp) ?_
      · rw [mu_at_cons (r := .inl (.long v)) (v := .inr (.inl v)) (g := fun j => mu_f H (mu_p o) j 3) (a2 j hj) rfl]
        show mu_v _ = mu_v (.inr (.inl (mu_l (mu_sl H (mu_p o) i.toNatClampNeg v) (mu_p o) j)))
        rw [mu_l_sl]
        by_cases e : j = i.toNatClampNeg
        · rw [if_pos e, if_pos ⟨rfl, e⟩]
        · rw [if_neg e, if_neg (fun z => e z.2)]; rfl
      · show ev_ast 2 (pc, mu_m L, .inl (.long v) :: .inl (.int i) :: mu_v (.inr (.inr o)) :: S.map mu_v, w, c, n) = _
        rw [a3]
        unfold ev_ast
        dsimp only
        rw [a1]
        show (match ev_ix (mu_n H (mu_p o)) (.inl (.int i)), some (Sum.inl (Value.long v)) with | some i, some r => some (pc + 1, mu_m L, S.map mu_v, w.set (mu_p o) (.inr (2, mu_n H (mu_p o), d, (i, r) :: wr)), c, n) | _, _ => none) = _
        rw [b1]
    · cases h
  · -- aastore: a row of longs into a row of rows
    split at h
    · rename_i pc L v i o S H
      cases h
      obtain ⟨h1, h0, h2⟩ := hC
      obtain ⟨d, wr, a1, a2, a3⟩ := mu_atA (t := 4) hr h1
      obtain ⟨d2, wr2, e1, e2, e3⟩ := mu_atA (t := 2) hr h0
      obtain ⟨b1, b2⟩ := mu_ix h2
      refine mu_put (q := mu_p o) (x := .inr (4, mu_n H (mu_p o), d, (i.toNatClampNeg, mu_v (.inr (.inr v))) :: wr)) hr rfl rfl rfl h1.2.1 ⟨h1.2.2, rfl, fun j hj => ?_⟩ (fun p hp => mu_same_sr hp) ?_
      · rw [mu_at_cons (v := .inr (.inr v)) (g := fun j => mu_f H (mu_p o) j 2) (a2 j hj) rfl]
        show mu_v _ = mu_v (.inr (.inr (mu_r (mu_sr H (mu_p o) i.toNatClampNeg v) (mu_p o) j)))
        rw [mu_r_sr]
        by_cases e : j = i.toNatClampNeg
        · rw [if_pos e, if_pos ⟨rfl, e⟩]
        · rw [if_neg e, if_neg (fun z => e z.2)]; rfl
      · show ev_aast (pc, mu_m L, mu_v (.inr (.inr v)) :: .inl (.int i) :: mu_v (.inr (.inr o)) :: S.map mu_v, w, c, n) = _
        rw [a3, e3]
        unfold ev_aast
        dsimp only
        rw [a1]
        have hm : ev_may (ev_tcl 4).1 (ev_tcl 4).2 w (.inl (.ref (mu_p v))) = true := by
          unfold ev_may
          dsimp only
          rw [e1]
          rfl
        show (bif (Nat.ble 4 4 && Nat.ble 4 10 && ev_may (ev_tcl 4).1 (ev_tcl 4).2 w (.inl (.ref (mu_p v)))) then (match ev_ix (mu_n H (mu_p o)) (.inl (.int i)) with | some i => some (pc + 1, mu_m L, S.map mu_v, w.set (mu_p o) (.inr (4, mu_n H (mu_p o), d, (i, .inl (.ref (mu_p v))) :: wr)), c, n) | none => none) else _) = _
        rw [hm, b1]
        rfl
    · cases h
  · -- newarray
    split at h
    · rename_i pc L x S H pl t
      obtain ⟨h0, h00⟩ := mu_some h
      cases h00
      obtain ⟨h1, h2, h3⟩ := hC
      have h3 : mu_z H + 1 ≤ 1000000 := h3
      have ht : t + 1 ≤ 3 := by simpa [Nat.blt] using h0
      have hp : mu_rep (mu_nw H (100 + t) x.toNatClampNeg x.toNatClampNeg) (w ++ [.inr (t, x.toNatClampNeg, ev_dflt t, [])]) := by
        refine mu_rep_push hr h3 ⟨by rw [mu_k_nw, if_pos rfl], by rw [mu_n_nw, if_pos rfl], fun i hi => ?_⟩
        show (ev_look ([] : List (Nat × ev_V)) i).getD (ev_dflt t) = _
        show ev_dflt t = _
        have hcase : t = 0 ∨ t = 1 ∨ t = 2 := by omega
        rcases hcase with rfl | rfl | rfl
        · show _ = mu_v (.inl (mu_i (mu_nw H 100 x.toNatClampNeg x.toNatClampNeg) (mu_z H) i))
          rw [mu_i_nw, if_pos rfl]; rfl
        · show _ = mu_v (.inl (mu_i (mu_nw H 101 x.toNatClampNeg x.toNatClampNeg) (mu_z H) i))
          rw [mu_i_nw, if_pos rfl]; rfl
        · show _ = mu_v (.inr (.inl (mu_l (mu_nw H 102 x.toNatClampNeg x.toNatClampNeg) (mu_z H) i)))
          rw [mu_l_nw, if_pos rfl]; rfl
      refine ⟨_, ?_, hp, by rw [mu_c_nw]; exact Nat.le_succ _, by rw [mu_s_nw]; exact Nat.le_add_right _ _⟩
      show (bif Nat.blt t 3 || Nat.beq t 8 then ev_newarr t 2 (pc, mu_m L, .inl (.int x) :: S.map mu_v, w, c, n) else none) = _
      rw [h0]
      show (bif decide (x < 0) then none else bif Nat.ble (x.toNatClampNeg * ev_bytes t) 536870912 then some (pc + 2, mu_m L, .inl (.ref w.length) :: S.map mu_v, w ++ [.inr (t, x.toNatClampNeg, ev_dflt t, [])], c + 1, n + x.toNatClampNeg) else none) = _
      rw [decide_eq_false h1, Nat.ble_eq_true_of_le h2]
      show some (pc + 2, mu_m L, .inl (.ref w.length) :: S.map mu_v, w ++ [.inr (t, x.toNatClampNeg, ev_dflt t, [])], c + 1, n + x.toNatClampNeg) = some (pc + 2, mu_m L, mu_v (.inr (.inr (some (mu_z H)))) :: S.map mu_v, w ++ [.inr (t, x.toNatClampNeg, ev_dflt t, [])], c + (mu_c H + 1 - mu_c H), n + (mu_s H + x.toNatClampNeg - mu_s H))
      rw [mu_v_ref (by omega), hr.1, Nat.add_sub_cancel_left, Nat.add_sub_cancel_left]
    · cases h
  · -- getfield
    split at h
    · rename_i pc L o S H kd pl ci k
      cases h
      have hok : (match ev_cl[ci]? with | some (C, T, N) => Nat.blt k N && ev_gl own _ C T k kd pl | none => false) = true := hok
      split at hok
      · rename_i C T N hcl
        simp only [Bool.and_eq_true] at hok
        have hk : k + 1 ≤ N := by simpa [Nat.blt] using hok.1
        have hft := mu_ft_get hcl hk
        obtain ⟨a1, a2⟩ := mu_atO hr hC (mu_cl_lt hcl)
        refine mu_keep hr rfl ?_
        show ev_getf ev_jk [kd, pl, ci, k] (pc, mu_m L, mu_v (.inr (.inr o)) :: S.map mu_v, w, c, n) = _
        rw [a2]
        unfold ev_getf
        dsimp only
        rw [a1]
        dsimp only
        rw [Nat.beq_refl, mu_fs_get H (mu_p o) 0 k _ _ hft]
        show some (pc + 3, mu_m L, mu_v (mu_f H (mu_p o) (0 + k) (mu_tc (ev_Y ci k))) :: S.map mu_v, w, c, n) = some (pc + 3, mu_m L, mu_v (mu_f H (mu_p o) k ((mu_ft ci).getD k 0)) :: S.map mu_v, w, c, n)
        rw [mu_f_getD hft, Nat.zero_add]
      · cases hok
    · rename_i pc L o S H pl fno
      split at h
      · cases h
        obtain ⟨j, hj, ej, ev⟩ := mu_str_v (show mu_str o from hC)
        have hj79 : j < 79 := hj
        refine mu_keep hr rfl ?_
        show ev_getf ev_jk [pl, 0] (pc, mu_m L, mu_v (.inr (.inr o)) :: S.map mu_v, w, c, n) = some (pc + 3, mu_m L, mu_v (.inr (.inr (some (mu_p o + 1000)))) :: S.map mu_v, w, c, n)
        rw [ev, ej, show 1000000 + j + 1000 = 1000000 + (1000 + j) by omega, mu_v_lit (by omega)]
        unfold ev_getf
        dsimp only
        rw [show Nat.blt j ev_jk = true from Nat.ble_eq_true_of_le hj]
        rfl
      · cases h
        obtain ⟨j, hj, ej, ev⟩ := mu_str_v (show mu_str o from hC)
        refine mu_keep hr rfl ?_
        show ev_getf ev_jk [pl, 1] (pc, mu_m L, mu_v (.inr (.inr o)) :: S.map mu_v, w, c, n) = some (pc + 3, mu_m L, ev_zero :: S.map mu_v, w, c, n)
        rw [ev]
        unfold ev_getf
        dsimp only
        rw [show Nat.blt j ev_jk = true from Nat.ble_eq_true_of_le hj]
        rfl
      · cases h
    · cases h
  · -- putfield
    split at h
    · rename_i pc L v o S H kd pl ci k tc
      have hok : (match ev_cl[ci]? with | some (C, T, N) => Nat.blt k N && ev_tc tc (ev_Y ci k) && (ev_gl own _ C T k kd pl && (decide ((T k).2.2.2 = false) || (Nat.beq kd 0 && decide (nm = "<init>") && decide ((T k).1 = own)))) | none => false) = true := hok
      split at hok
      · rename_i C T N hcl
        simp only [Bool.and_eq_true] at hok
        have hk : k + 1 ≤ N := by simpa [Nat.blt] using hok.1.1
        have htc := ev_tc_ok hok.1.2
        have hft := mu_ft_get hcl hk
        have key : mu_tc (ev_Y ci k) ≠ 2 → mu_tc (ev_Y ci k) ≠ 3 → mu_is H o ci → ev_fit tc (.inl (.int v)) = true → mu_to (ev_putf [kd, pl, ci, k, tc] (pc, mu_m L, .inl (.int v) :: mu_v (.inr (.inr o)) :: S.map mu_v, w, c, n)) (pc, L, .inl v :: .inr (.inr o) :: S, H) (pc + 3, L, S, mu_si H (mu_p o) k v) c n := by
          intro n2 n3 his hfit
          obtain ⟨a1, a2⟩ := mu_atO hr his (mu_cl_lt hcl)
          have hset : (mu_fs H (mu_p o) 0 (mu_ft ci)).set k (mu_v (.inl v)) = mu_fs (mu_si H (mu_p o) k v) (mu_p o) 0 (mu_ft ci) := by
            refine mu_fs_set 0 (mu_ft ci) _ hft ?_ ?_
            · rw [Nat.zero_add]
              unfold mu_f
              split
              · exact absurd (by assumption) n2
              · exact absurd (by assumption) n3
              · rw [mu_i_si, if_pos ⟨rfl, rfl⟩]
            · intro i tc' hi
              unfold mu_f
              split
              · rfl
              · rfl
              · rw [mu_i_si, if_neg (fun z => hi (by rw [Nat.zero_add]; exact z.2))]
          refine mu_put (q := mu_p o) (x := .inl (ci, mu_fs (mu_si H (mu_p o) k v) (mu_p o) 0 (mu_ft ci))) hr rfl rfl rfl his.2.1 ⟨his.2.2, mu_cl_lt hcl, rfl⟩ (fun p hp => mu_same_si hp) ?_
          rw [a2]
          unfold ev_putf
          dsimp only
          rw [a1]
          have hl : Nat.blt k (mu_fs H (mu_p o) 0 (mu_ft ci)).length = true := by
            rw [mu_fs_len]
            have := (List.getElem?_eq_some_iff.mp hft).1
            exact Nat.ble_eq_true_of_le this
          show (bif Nat.beq ci ci && ev_fit tc (.inl (.int v)) && Nat.blt k (mu_fs H (mu_p o) 0 (mu_ft ci)).length then some (pc + 3, mu_m L, S.map mu_v, w.set (mu_p o) (.inl (ci, (mu_fs H (mu_p o) 0 (mu_ft ci)).set k (.inl (.int v)))), c, n) else none) = _
          rw [Nat.beq_refl, hfit, hl]
          show some (pc + 3, mu_m L, S.map mu_v, w.set (mu_p o) (.inl (ci, (mu_fs H (mu_p o) 0 (mu_ft ci)).set k (mu_v (.inl v)))), c, n) = _
          rw [hset]
        split at h
        · cases h
          refine key ?_ ?_ hC rfl
          · rcases htc with ⟨-, e⟩ | ⟨e, -⟩ | ⟨e, -⟩ | ⟨e, -⟩
            · rw [e]; decide
            · cases e
            · cases e
            · cases e
          · rcases htc with ⟨-, e⟩ | ⟨e, -⟩ | ⟨e, -⟩ | ⟨e, -⟩
            · rw [e]; decide
            · cases e
            · cases e
            · cases e
        · cases h
          obtain ⟨hc1, hc2⟩ := hC
          refine key ?_ ?_ hc1 ?_
          · rcases htc with ⟨e, -⟩ | ⟨-, e⟩ | ⟨e, -⟩ | ⟨e, -⟩
            · cases e
            · rw [e]; decide
            · cases e
            · cases e
          · rcases htc with ⟨e, -⟩ | ⟨-, e⟩ | ⟨e, -⟩ | ⟨e, -⟩
            · cases e
            · rw [e]; decide
            · cases e
            · cases e
          · show (decide (v = 0) || decide (v = 1)) = true
            have hc2 : v = 0 ∨ v = 1 := hc2
            simpa using hc2
        · cases h
      · cases hok
    · rename_i pc L v o S H kd pl ci k tc
      have hok : (match ev_cl[ci]? with | some (C, T, N) => Nat.blt k N && ev_tc tc (ev_Y ci k) && (ev_gl own _ C T k kd pl && (decide ((T k).2.2.2 = false) || (Nat.beq kd 0 && decide (nm = "<init>") && decide ((T k).1 = own)))) | none => false) = true := hok
      split at hok
      · rename_i C T N hcl
        simp only [Bool.and_eq_true] at hok
        have hk : k + 1 ≤ N := by simpa [Nat.blt] using hok.1.1
        have htc := ev_tc_ok hok.1.2
        have hft := mu_ft_get hcl hk
        split at h
        · cases h
          have his : mu_is H o ci := hC
          have h2 : mu_tc (ev_Y ci k) = 2 := by
            rcases htc with ⟨e, -⟩ | ⟨e, -⟩ | ⟨-, ⟨C, e⟩ | ⟨t, e⟩⟩ | ⟨e, -⟩
            · cases e
            · cases e
            · rw [e]; rfl
            · rw [e]; rfl
            · cases e
          obtain ⟨a1, a2⟩ := mu_atO hr his (mu_cl_lt hcl)
          have hset : (mu_fs H (mu_p o) 0 (mu_ft ci)).set k (mu_v (.inr (.inr v))) = mu_fs (mu_sr H (mu_p o) k v) (mu_p o) 0 (mu_ft ci) := by
            refine mu_fs_set 0 (mu_ft ci) _ hft ?_ ?_
            · rw [Nat.zero_add, h2]
              show Sum.inr (Sum.inr (mu_r _ _ _)) = _
              rw [mu_r_sr, if_pos ⟨rfl, rfl⟩]
            · intro i tc' hi
              unfold mu_f
              split
              · rw [mu_r_sr, if_neg (fun z => hi (by rw [Nat.zero_add]; exact z.2))]
              · rfl
              · rfl
          refine mu_put (q := mu_p o) (x := .inl (ci, mu_fs (mu_sr H (mu_p o) k v) (mu_p o) 0 (mu_ft ci))) hr rfl rfl rfl his.2.1 ⟨his.2.2, mu_cl_lt hcl, rfl⟩ (fun p hp => mu_same_sr hp) ?_
          show ev_putf [kd, pl, ci, k, 2] (pc, mu_m L, mu_v (.inr (.inr v)) :: mu_v (.inr (.inr o)) :: S.map mu_v, w, c, n) = _
          rw [a2]
          unfold ev_putf
          dsimp only
          rw [a1]
          have hl : Nat.blt k (mu_fs H (mu_p o) 0 (mu_ft ci)).length = true := by
            rw [mu_fs_len]
            have := (List.getElem?_eq_some_iff.mp hft).1
            exact Nat.ble_eq_true_of_le this
          show (bif Nat.beq ci ci && ev_isR (mu_v (.inr (.inr v))) && Nat.blt k (mu_fs H (mu_p o) 0 (mu_ft ci)).length then some (pc + 3, mu_m L, S.map mu_v, w.set (mu_p o) (.inl (ci, (mu_fs H (mu_p o) 0 (mu_ft ci)).set k (mu_v (.inr (.inr v))))), c, n) else none) = _
          rw [Nat.beq_refl, mu_v_isR, hl, hset]
          rfl
        · cases h
      · cases hok
    · rename_i pc L v o S H kd pl ci k tc
      have hok : (match ev_cl[ci]? with | some (C, T, N) => Nat.blt k N && ev_tc tc (ev_Y ci k) && (ev_gl own _ C T k kd pl && (decide ((T k).2.2.2 = false) || (Nat.beq kd 0 && decide (nm = "<init>") && decide ((T k).1 = own)))) | none => false) = true := hok
      split at hok
      · rename_i C T N hcl
        simp only [Bool.and_eq_true] at hok
        have hk : k + 1 ≤ N := by simpa [Nat.blt] using hok.1.1
        have htc := ev_tc_ok hok.1.2
        have hft := mu_ft_get hcl hk
        split at h
        · cases h
          have his : mu_is H o ci := hC
          have h2 : mu_tc (ev_Y ci k) = 3 := by
            rcases htc with ⟨e, -⟩ | ⟨e, -⟩ | ⟨e, -⟩ | ⟨-, e⟩
            · cases e
            · cases e
            · cases e
            · rw [e]; rfl
          obtain ⟨a1, a2⟩ := mu_atO hr his (mu_cl_lt hcl)
          have hset : (mu_fs H (mu_p o) 0 (mu_ft ci)).set k (mu_v (.inr (.inl v))) = mu_fs (mu_sl H (mu_p o) k v) (mu_p o) 0 (mu_ft ci) := by
            refine mu_fs_set 0 (mu_ft ci) _ hft ?_ ?_
            · rw [Nat.zero_add, h2]
              show Sum.inr (Sum.inl (mu_l _ _ _)) = _
              rw [mu_l_sl, if_pos ⟨rfl, rfl⟩]
            · intro i tc' hi
              unfold mu_f
              split
              · rfl
              · rw [mu_l_sl, if_neg (fun z => hi (by rw [Nat.zero_add]; exact z.2))]
              · rfl
          refine mu_put (q := mu_p o) (x := .inl (ci, mu_fs (mu_sl H (mu_p o) k v) (mu_p o) 0 (mu_ft ci))) hr rfl rfl rfl his.2.1 ⟨his.2.2, mu_cl_lt hcl, rfl⟩ (fun p hp => mu_same_sl hp) ?_
          show ev_putf [kd, pl, ci, k, 3] (pc, mu_m L, mu_v (.inr (.inl v)) :: mu_v (.inr (.inr o)) :: S.map mu_v, w, c, n) = _
          rw [a2]
          unfold ev_putf
          dsimp only
          rw [a1]
          have hl : Nat.blt k (mu_fs H (mu_p o) 0 (mu_ft ci)).length = true := by
            rw [mu_fs_len]
            have := (List.getElem?_eq_some_iff.mp hft).1
            exact Nat.ble_eq_true_of_le this
          show (bif Nat.beq ci ci && ev_isL (mu_v (.inr (.inl v))) && Nat.blt k (mu_fs H (mu_p o) 0 (mu_ft ci)).length then some (pc + 3, mu_m L, S.map mu_v, w.set (mu_p o) (.inl (ci, (mu_fs H (mu_p o) 0 (mu_ft ci)).set k (mu_v (.inr (.inl v))))), c, n) else none) = _
          rw [Nat.beq_refl, show ev_isL (mu_v (.inr (.inl v))) = true from rfl, hl, hset]
          rfl
        · cases h
      · cases hok
    · cases h
  · -- getstatic
    split at h
    · cases h
      exact mu_keep hr rfl rfl
    · cases h
      exact mu_keep hr rfl rfl
    · cases h
      exact mu_keep hr rfl rfl
    · cases h
  · -- anewarray
    split at h
    · rename_i pc L x S H pl t pl2
      obtain ⟨h0, h00⟩ := mu_some h
      cases h00
      obtain ⟨h1, h2, h3⟩ := hC
      have h3 : mu_z H + 1 ≤ 1000000 := h3
      rw [Bool.and_eq_true] at h0
      have ht : 3 ≤ t := Nat.le_of_ble_eq_true h0.1
      have ht8 : t ≠ 8 := fun e => by subst e; cases h0.2
      have hd : ev_dflt t = .inl .null := by unfold ev_dflt; split <;> first | omega | rfl
      have he : mu_et t = 2 := by unfold mu_et; split <;> first | omega | rfl
      have hp : mu_rep (mu_nw H (100 + t) x.toNatClampNeg x.toNatClampNeg) (w ++ [.inr (t, x.toNatClampNeg, ev_dflt t, [])]) := by
        refine mu_rep_push hr h3 ⟨by rw [mu_k_nw, if_pos rfl], by rw [mu_n_nw, if_pos rfl], fun i hi => ?_⟩
        show (ev_look ([] : List (Nat × ev_V)) i).getD (ev_dflt t) = _
        show ev_dflt t = _
        rw [hd, he]
        show _ = mu_v (.inr (.inr (mu_r (mu_nw H (100 + t) x.toNatClampNeg x.toNatClampNeg) (mu_z H) i)))
        rw [mu_r_nw, if_pos rfl]
        rfl
      refine ⟨_, ?_, hp, by rw [mu_c_nw]; exact Nat.le_succ _, by rw [mu_s_nw]; exact Nat.le_add_right _ _⟩
      show (bif Nat.blt 2 t && !Nat.beq t 8 then ev_newarr t 3 (pc, mu_m L, .inl (.int x) :: S.map mu_v, w, c, n) else none) = _
      rw [h0.1, h0.2]
      show (bif decide (x < 0) then none else bif Nat.ble (x.toNatClampNeg * ev_bytes t) 536870912 then some (pc + 3, mu_m L, .inl (.ref w.length) :: S.map mu_v, w ++ [.inr (t, x.toNatClampNeg, ev_dflt t, [])], c + 1, n + x.toNatClampNeg) else none) = _
      rw [decide_eq_false h1, Nat.ble_eq_true_of_le h2]
      show some (pc + 3, mu_m L, .inl (.ref w.length) :: S.map mu_v, w ++ [.inr (t, x.toNatClampNeg, ev_dflt t, [])], c + 1, n + x.toNatClampNeg) = some (pc + 3, mu_m L, mu_v (.inr (.inr (some (mu_z H)))) :: S.map mu_v, w ++ [.inr (t, x.toNatClampNeg, ev_dflt t, [])], c + (mu_c H + 1 - mu_c H), n + (mu_s H + x.toNatClampNeg - mu_s H))
      rw [mu_v_ref (by omega), hr.1, Nat.add_sub_cancel_left, Nat.add_sub_cancel_left]
    · cases h
  · cases h
