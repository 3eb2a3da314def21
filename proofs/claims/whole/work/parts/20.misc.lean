/-! Object's constructor; System.arraycopy of bytes; counts only grow -/
theorem ev_at_copy {d d0 : ev_V} {wr0 : List (Nat × ev_V)} {sp dp : Nat} : ∀ (k : Nat) (wr : List (Nat × ev_V)) (j : Nat), ev_at d (ev_copy d0 wr0 sp dp k wr) j = if dp ≤ j ∧ j < dp + k then ev_at d0 wr0 (sp + (j - dp)) else ev_at d wr j
  | 0, wr, j => by
    rw [if_neg (by omega)]
    rfl
  | k + 1, wr, j => by
    show ev_at d ((dp + k, ev_at d0 wr0 (sp + k)) :: ev_copy d0 wr0 sp dp k wr) j = _
    rw [ev_at_cons, ev_at_copy k wr j]
    by_cases e : dp + k = j
    · subst e
      rw [if_pos rfl, if_pos (by omega), show dp + k - dp = k by omega]
    · rw [if_neg e]
      by_cases h : dp ≤ j ∧ j < dp + k
      · rw [if_pos h, if_pos (by omega)]
      · rw [if_neg h, if_neg (by omega)]
theorem ev_bytesOk_at {d0 : ev_V} {wr0 : List (Nat × ev_V)} {sp : Nat} : ∀ {k : Nat}, ev_bytesOk d0 wr0 sp k = true → ∀ i, i < k → ev_isb (ev_at d0 wr0 (sp + i)) = true
  | 0, _, i, hi => by omega
  | k + 1, h, i, hi => by
    simp only [ev_bytesOk, Bool.and_eq_true] at h
    by_cases e : i = k
    · subst e; exact h.1
    · exact ev_bytesOk_at h.2 i (by omega)
theorem ev_known_some {x : ev_V} {N : Nat} (h : ev_known (ev_int x) = some N) : ∃ z : Int32, x = .inl (.int z) ∧ ¬ z < 0 ∧ z.toNatClampNeg = N := by
  cases hx : ev_int x with
  | none => rw [hx] at h; cases h
  | some z =>
    rw [hx] at h
    by_cases q : z < 0
    · simp [ev_known, q] at h
    · simp only [ev_known, q, decide_false, cond_false] at h
      cases h
      exact ⟨z, ev_int_some hx, q, rfl⟩
section EvMisc
variable {p : Program} {l : Launch} {e : Env} {R : Room} {s : State} {m : MethodId} {args : Array Value} {below : List Frame} {meth : Method} {c : Code} {Q : State → Prop} {D : va_G} {tys : List (ClassId × FieldType)} {A : Nat → Prop} {ex : Nat → Nat} {al0 : List Nat} {nL : Nat} {sc : List ev_V}
variable {pc k n : Nat} {L : List (Nat × ev_V)} {S : List ev_V} {w : List ev_C} {cc : ByteArray} {own nm : String}
theorem ev_sum2 : ∀ (r : List Value), (r.map fun v => v.category).sum ≤ 2 * r.length
  | [] => by simp
  | v :: r => by
    have := lv_cat v
    have := ev_sum2 r
    simp only [List.map_cons, List.sum_cons, List.length_cons]
    omega
theorem ev_sum_le {al : List Nat} {rest : List Value} (h8 : ev_st al ex S rest) (h : ev_wds S ≤ 8) : (rest.map fun v => v.category).sum ≤ 8 := by
  rw [ev_wds_sum h8]
  exact h
theorem es_init (X : ev_Ctx p R s m args meth c D tys A ex cc own nm nL sc) {idx q : Nat} (hd : decode cc pc = .ok (.invokespecial idx, 3)) (hlink : Cond.methodLink own idx Lib.objectInit ∈ ev_Ts) (hinst : Cond.instanceMethod Lib.objectInit ∈ ev_Ts) (hcode : Cond.code Lib.objectInit ⟨#[0xb1]⟩ 1 none ∈ ev_Ts) (hS : ev_wds S ≤ 8) (hfr : 1 ≤ R.frames) (hlo : 200 ≤ R.locals)
    (h : ev_G p l e R s m args below meth c Q D ev_cl tys A ex al0 nL (pc + 3, L, S, w, k, n)) : ev_G p l e R s m args below meth c Q D ev_cl tys A ex al0 nL (pc, L, .inl (.ref q) :: S, w, k, n) := by
  intro al ws H locs ls lv st h1 h2 h3 h4 h5 h6 h7 h8
  obtain ⟨va, st1, rfl, ⟨a, g0, rfl⟩, g2⟩ := ev_st_cons h8
  obtain ⟨hx, hb, hml, hown, hts, hK, hTy, hA, hX, -⟩ := X
  have hsum := ev_sum_le g2 hS
  exact W.objInit hx hb hown (hts _ hlink) (hts _ hinst) (hts _ hcode) rfl (h6.1.trans hml.symm) rfl hd hfr (by show 2 * 0 + _ + 12 ≤ R.locals; omega) (h al ws H locs ls lv st1 h1 h2 h3 h4 h5 h6 h7 g2)
theorem ev_nfw : nativeFrameWords "java/lang/System" "arraycopy" 5 ≤ 150 := by decide +kernel
theorem es_acopy (X : ev_Ctx p R s m args meth c D tys A ex cc own nm nL sc) {idx : Nat} {f' : ev_F} (hd : decode cc pc = .ok (.invokestatic idx, 3)) (hlink : Cond.methodLink own idx arraycopyName ∈ ev_Ts) (hnat : Cond.native arraycopyName ∈ ev_Ts) (hstat : Cond.static arraycopyName ∈ ev_Ts) (hini : Cond.initialized "java/lang/System" ∈ ev_Ts) (hfr : 1 ≤ R.frames) (hlo : 200 ≤ R.locals)
    (hs : ev_acopy (pc, L, S, w, k, n) = some f') (h : ev_G p l e R s m args below meth c Q D ev_cl tys A ex al0 nL f') : ev_G p l e R s m args below meth c Q D ev_cl tys A ex al0 nL (pc, L, S, w, k, n) := by
  unfold ev_acopy at hs
  split at hs
  · rename_i pc1 L1 x3 x2 q1 x1 q0 S1 w1 c1 n1 heq
    cases heq
    split at hs
    · rename_i t0 N0 d0 wr0 t1 N1 d1 wr1 sp dp kk hw0 hw1 hsp hdp hkk
      obtain ⟨hcond, rfl⟩ := ev_bif hs
      simp only [Bool.and_eq_true, Bool.or_eq_true] at hcond
      obtain ⟨⟨⟨⟨⟨b1, b2⟩, b3⟩, b4⟩, b5⟩, b6⟩ := hcond
      have e0 := Nat.eq_of_beq_eq_true b1
      subst e0
      have b2 : t0 + 1 ≤ 3 := by simpa [Nat.blt] using b2
      have b3 := Nat.le_of_ble_eq_true b3
      have b4 := Nat.le_of_ble_eq_true b4
      have b6 := Nat.le_of_ble_eq_true b6
      obtain ⟨z1, rfl, y1, rfl⟩ := ev_known_some hsp
      obtain ⟨z2, rfl, y2, rfl⟩ := ev_known_some hdp
      obtain ⟨z3, rfl, y3, rfl⟩ := ev_known_some hkk
      intro al ws H locs ls lv st h1 h2 h3 h4 h5 h6 h7 h8
      obtain ⟨hx, hb, hml, hown, hts, hK, hTy, hA, hX, -⟩ := X
      obtain ⟨v3, st1, rfl, g3, r1⟩ := ev_st_cons h8
      obtain ⟨v2, st2, rfl, g4, r2⟩ := ev_st_cons r1
      obtain ⟨va, st3, rfl, ⟨a1, g5, rfl⟩, r3⟩ := ev_st_cons r2
      obtain ⟨v1, st4, rfl, g6, r4⟩ := ev_st_cons r3
      obtain ⟨vb, rest, rfl, ⟨a0, g7, rfl⟩, r5⟩ := ev_st_cons r4
      have g3 : v3 = .int z3 := g3
      have g4 : v2 = .int z2 := g4
      have g6 : v1 = .int z1 := g6
      subst g3; subst g4; subst g6
      obtain ⟨E0, i0, cA0, ty0, i1, hE0⟩ := ev_w_get h2 hw0 g7
      obtain ⟨E1, j0, cA1, ty1, j1, hE1⟩ := ev_w_get h2 hw1 g5
      have hsum := ev_sum_le r5 b6
      have hn := ev_nfw
      have hcase : t0 = 0 ∨ t0 = 1 ∨ t0 = 2 := by omega
      rcases hcase with rfl | rfl | rfl
      · obtain ⟨f0, rfl, i2⟩ := hE0
        obtain ⟨f1, rfl, j2⟩ := hE1
        cases ev_ty hTy i1
        cases ev_ty hTy j1
        refine va_copyi (ty := .int) hx hb (hml.trans h6.1.symm) hown (hts _ hlink) (hts _ hnat) (hts _ hstat) (hts _ hini) hK h3 h4 h5 q0 q1 0 0 i0 j0 i1 j1 rfl y1 y2 y3 b3 b4 (fun i hi => rfl) hfr (by omega) hd fun H1 locs1 l1 l2 l3 => ?_
        refine h al _ H1 locs1 ls lv rest h1 (ev_w_set h2 g5 ⟨cA1, _, j1, _, rfl, fun j hj => ?_⟩) l1 l2 l3 h6 h7 r5
        rw [ev_at_copy]
        unfold va_cpy
        by_cases e : z2.toNatClampNeg ≤ j ∧ j < z2.toNatClampNeg + z3.toNatClampNeg
        · rw [if_pos e, if_pos e]
          exact i2 _ (by omega)
        · rw [if_neg e, if_neg e]
          exact j2 j hj
      · obtain ⟨f0, rfl, i2⟩ := hE0
        obtain ⟨f1, rfl, j2⟩ := hE1
        cases ev_ty hTy i1
        cases ev_ty hTy j1
        have b5 : ev_bytesOk d0 wr0 z1.toNatClampNeg z3.toNatClampNeg = true := by
          rcases b5 with b5 | b5
          · cases b5
          · exact b5
        refine va_copyi (ty := .byte) hx hb (hml.trans h6.1.symm) hown (hts _ hlink) (hts _ hnat) (hts _ hstat) (hts _ hini) hK h3 h4 h5 q0 q1 1 1 i0 j0 i1 j1 rfl y1 y2 y3 b3 b4 (fun i hi => ?_) hfr (by omega) hd fun H1 locs1 l1 l2 l3 => ?_
        · have z := ev_bytesOk_at b5 i hi
          have z2 := i2 (z1.toNatClampNeg + i) (by omega)
          unfold ev_isb at z
          split at z
          · rename_i xx hxx
            rw [hxx] at z2
            have z3 : (Value.int (f0 (z1.toNatClampNeg + i))) = .int xx := z2
            rw [z3]
            exact z
          · cases z
        · refine h al _ H1 locs1 ls lv rest h1 (ev_w_set h2 g5 ⟨cA1, _, j1, _, rfl, fun j hj => ?_⟩) l1 l2 l3 h6 h7 r5
          rw [ev_at_copy]
          unfold va_cpy
          by_cases e : z2.toNatClampNeg ≤ j ∧ j < z2.toNatClampNeg + z3.toNatClampNeg
          · rw [if_pos e, if_pos e]
            exact i2 _ (by omega)
          · rw [if_neg e, if_neg e]
            exact j2 j hj
      · obtain ⟨f0, rfl, i2⟩ := hE0
        obtain ⟨f1, rfl, j2⟩ := hE1
        cases ev_ty hTy i1
        cases ev_ty hTy j1
        refine va_copyl (ty := .long) hx hb (hml.trans h6.1.symm) hown (hts _ hlink) (hts _ hnat) (hts _ hstat) (hts _ hini) hK h3 h4 h5 q0 q1 2 2 i0 j0 i1 j1 rfl y1 y2 y3 b3 b4 (fun i hi => rfl) hfr (by omega) hd fun H1 locs1 l1 l2 l3 => ?_
        refine h al _ H1 locs1 ls lv rest h1 (ev_w_set h2 g5 ⟨cA1, _, j1, _, rfl, fun j hj => ?_⟩) l1 l2 l3 h6 h7 r5
        rw [ev_at_copy]
        unfold va_cpy
        by_cases e : z2.toNatClampNeg ≤ j ∧ j < z2.toNatClampNeg + z3.toNatClampNeg
        · rw [if_pos e, if_pos e]
          exact i2 _ (by omega)
        · rw [if_neg e, if_neg e]
          exact j2 j hj
    · cases hs
  · cases hs
theorem es_clone (X : ev_Ctx p R s m args meth c D tys A ex cc own nm nL sc) {idx : Nat} {f' : ev_F} (hd : decode cc pc = .ok (.invokevirtual idx, 3)) (hlink : Cond.methodLink own idx ⟨"[B", "clone", "()Ljava/lang/Object;"⟩ ∈ ev_Ts) (hsame : Cond.sameMethod "[B" "java/lang/Object" "clone" "()Ljava/lang/Object;" ∈ ev_Ts) (hnat : Cond.native ⟨"java/lang/Object", "clone", "()Ljava/lang/Object;"⟩ ∈ ev_Ts) (hinst : Cond.instanceMethod ⟨"java/lang/Object", "clone", "()Ljava/lang/Object;"⟩ ∈ ev_Ts) (hsel : Cond.selects "[B" ⟨"[B", "clone", "()Ljava/lang/Object;"⟩ ⟨"java/lang/Object", "clone", "()Ljava/lang/Object;"⟩ ∈ ev_Ts) (hcst : Cond.castable "[B" "java/lang/Cloneable" ∈ lw_tbl) (hfr : 1 ≤ R.frames) (hlo : 200 ≤ R.locals)
    (hs : ev_clone (pc, L, S, w, k, n) = some f') (hkc : f'.2.2.2.2.1 ≤ R.cells) (hkn : f'.2.2.2.2.2 ≤ R.slots) (h : ev_G p l e R s m args below meth c Q D ev_cl tys A ex al0 nL f') : ev_G p l e R s m args below meth c Q D ev_cl tys A ex al0 nL (pc, L, S, w, k, n) := by
  unfold ev_clone at hs
  split at hs
  · rename_i pc1 L1 q S1 w1 c1 n1 heq
    cases heq
    split at hs
    · rename_i t N d wr hw
      obtain ⟨hcond, rfl⟩ := ev_bif hs
      simp only [Bool.and_eq_true] at hcond
      obtain ⟨⟨b1, b2⟩, b3⟩ := hcond
      have e1 := Nat.eq_of_beq_eq_true b1
      subst e1
      have b3 := Nat.le_of_ble_eq_true b3
      intro al ws H locs ls lv st h1 h2 h3 h4 h5 h6 h7 h8
      obtain ⟨hx, hb, hml, hown, hts, hK, hTy, hA, hX, -⟩ := X
      obtain ⟨va, st1, rfl, ⟨a, g0, rfl⟩, g2⟩ := ev_st_cons h8
      obtain ⟨E, g3, cA, ty, g4, f, rfl, g5⟩ := ev_w_get h2 hw g0
      cases ev_ty hTy g4
      have hsum := ev_sum_le g2 b3
      refine va_clone (x := (N, .inl f)) hx hb (hml.trans h6.1.symm) hown (hts _ hlink) (hts _ hsame) (hts _ hnat) (hts _ hinst) (hts _ hsel) (hX.1 _ hcst rfl) hK h3 h4 h5 hA q 1 g3 g4 (va_nm_byte (hK.2 1 _ g4).2) ?_ hfr (by omega) hkc hkn hd fun q' H1 i1 i2 i3 i4 => ?_
      · intro i v hv
        rw [vp_cell_i] at hv
        refine va_fit (fun i hi => ?_) i v hv
        have z := ev_bytesOk_at b2 i hi
        rw [Nat.zero_add] at z
        have z2 := g5 i hi
        unfold ev_isb at z
        split at z
        · rename_i xx hxx
          rw [hxx] at z2
          have z3 : (Value.int (f i)) = .int xx := z2
          rw [z3]
          exact z
        · cases z
      · refine h (al ++ [q']) _ H1 locs ls lv (.ref q' :: st1) (h1.trans (List.prefix_append _ _)) (ev_w_push h2 q' ⟨cA, _, g4, _, rfl, fun i hi => ev_rel.mono (List.prefix_append _ _) (g5 i hi)⟩) i2 i3 i4 h6 (ev_lv.mono (List.prefix_append _ _) h7) ⟨⟨q', ?_, rfl⟩, ev_st.mono (List.prefix_append _ _) g2⟩
        rw [← ev_len h2]
        simp
    · cases hs
  · cases hs
end EvMisc
