/-! Every instruction that is no call and no end: the evaluator's step holds of the machine -/
/-- what a method's body stands on -/
def ev_Ctx (p : Program) (R : Room) (s : State) (m : MethodId) (args : Array Value) (meth : Method) (c : Code) (D : va_G) (tys : List (ClassId × FieldType)) (A : Nat → Prop) (ex : Nat → Nat) (cc : ByteArray) (own nm : String) (nL : Nat) (sc : List ev_V) : Prop :=
  p.tables.exec = Jvm.exec ∧ c.code = cc ∧ c.maxLocals = nL ∧ s.vm.findClass own = some m.cls ∧ (∀ w ∈ ev_Ts, w.before args s = true) ∧ va_K D ev_cl tys s ∧ tys.map Prod.snd = ev_tys ∧ (∀ q, s.heap.size ≤ q → A q) ∧ ev_X ex A s s.heap ∧ meth.name = nm ∧
  (sc = [] ∨ ∃ xs : Nat → Int32, va_X (ex 2000) sc.length xs s s.heap ∧ ex 2000 < s.heap.size ∧ ¬ A (ex 2000) ∧ ∀ (i : Nat) (v : ev_V), sc[i]? = some v → ∀ al, ev_rel al ex v (.int (xs i))) ∧ R.frames = R.frames
section EvDisp
variable {p : Program} {l : Launch} {e : Env} {R : Room} {s : State} {m : MethodId} {args : Array Value} {below : List Frame} {meth : Method} {c : Code} {Q : State → Prop} {D : va_G} {tys : List (ClassId × FieldType)} {A : Nat → Prop} {ex : Nat → Nat} {al0 : List Nat} {nL : Nat} {sc : List ev_V}
variable {pc k n : Nat} {L : List (Nat × ev_V)} {S : List ev_V} {w : List ev_C} {cc : ByteArray} {own nm : String}
theorem ev_ok_dec {ins : Instr} {ops : List Nat} (h : ev_ok own nm cc (pc, ins, ops) = true) (hs : ev_sw ins = false) : decode cc pc = .ok (ins, ev_ilen ins) := by
  simp only [ev_ok, Bool.and_eq_true] at h
  obtain ⟨len, h1, h2⟩ := ev_dec_ok h.1
  rcases h2 with h2 | h2
  · rw [hs] at h2; cases h2
  · rw [h1, h2]
theorem ev_ok_two {ins : Instr} {ops : List Nat} (h : ev_ok own nm cc (pc, ins, ops) = true) : ev_ok2 own nm pc ins ops = true := by
  simp only [ev_ok, Bool.and_eq_true] at h
  exact h.2
theorem ev_blt {a b : Nat} (h : Nat.blt a b = true) : a < b := Nat.le_of_ble_eq_true h
theorem ev_kb_len : ev_kb.length = ev_jk + 1 := rfl
/-- an outer array -/
theorem ev_kbT {j : Nat} {U : State} {H : Heap} (hX : ev_X ex A U H) (hj : j < ev_kb.length) : (ev_oty ev_kb (1000 + j) = 1 ∧ va_T .byte (ex (1000 + j)) (ev_kb.getD j []).length (fun i => .int ((ev_kb.getD j []).getD i 0)) A U H) ∨ (ev_oty ev_kb (1000 + j) = 0 ∧ va_T .int (ex (1000 + j)) (ev_kb.getD j []).length (fun i => .int ((ev_kb.getD j []).getD i 0)) A U H) := by
  rw [ev_kb_len] at hj
  unfold ev_oty
  rw [Nat.add_sub_cancel_left, ev_kb_len]
  by_cases e : j = ev_jk
  · subst e
    exact Or.inr ⟨by rw [Nat.beq_refl]; rfl, hX.2.2.2.1⟩
  · refine Or.inl ⟨?_, (hX.2.2.1 j (by omega)).2.2.2⟩
    cases hb : Nat.beq (j + 1) (ev_jk + 1) with
    | false => rfl
    | true => exact absurd (Nat.eq_of_beq_eq_true hb) (by omega)
/-- ldc_w of a String constant -/
theorem ev_ldcSw {H : Heap} {locs : List Loc} {cells slots : Nat} {ls : Array Slot} {rest : List Value} (hexec : p.tables.exec = Jvm.exec) (hb : c.code = cc) {tx : String} {index q : Nat} (hown : s.vm.findClass own = some m.cls) (hZ : vk_R own index tx q s) (hdg : decode cc pc = .ok (.ldc_w index, 3))
    (k : W p l e R s m args below meth c H locs cells slots Q (F0 m (pc + 3) ls (.ref q :: rest))) : W p l e R s m args below meth c H locs cells slots Q (F0 m pc ls rest) := by
  intro T hT X
  obtain ⟨t, a1, b1⟩ := k T hT X
  exact ⟨t, X.ldcStringW hexec hown (text := tx) (a := q) hZ.1 hZ.2 (g := F0 m pc ls rest) rfl (by rw [hb]; exact hdg) t a1, b1⟩
set_option maxHeartbeats 4000000 in
theorem ev_step_ok (X : ev_Ctx p R s m args meth c D tys A ex cc own nm nL sc) {ins : Instr} {ops : List Nat} {f' : ev_F} (hok : ev_ok own nm cc (pc, ins, ops) = true)
    (hs : ev_step ev_fds ev_jk ev_kb sc nL ins ops (pc, L, S, w, k, n) = some f') (hkc : f'.2.2.2.2.1 ≤ R.cells) (hkn : f'.2.2.2.2.2 ≤ R.slots)
    (h : ev_G p l e R s m args below meth c Q D ev_cl tys A ex al0 nL f') : ev_G p l e R s m args below meth c Q D ev_cl tys A ex al0 nL (pc, L, S, w, k, n) := by
  obtain ⟨hx, hb, hml, hown, hts, hK, hT, hA, hX, hnm, hsc, -⟩ := X
  have h2 := ev_ok_two hok
  unfold ev_step at hs
  split at hs
  · rename_i i
    cases hs
    exact es_const (x := .inl (.int (Int32.ofInt i))) (v := .int (Int32.ofInt i)) (fun _ => rfl) (fun kk => lv_iconst hx hb (ev_ok_dec hok rfl) rfl kk) h
  · rename_i i
    cases hs
    exact es_const (x := .inl (.int (Int8.ofInt i).toInt32)) (v := .int (Int8.ofInt i).toInt32) (fun _ => rfl) (fun kk => lv_bipush hx hb (ev_ok_dec hok rfl) rfl kk) h
  · rename_i i
    cases hs
    exact es_const (x := .inl (.int (Int16.ofInt i).toInt32)) (v := .int (Int16.ofInt i).toInt32) (fun _ => rfl) (fun kk => lv_sipush hx hb (ev_ok_dec hok rfl) rfl kk) h
  · -- ldc
    rename_i idx
    match ops, h2, hs, hok with
    | [pl, v], h2, hs, hok =>
      cases hs
      exact es_const (x := .inl (.int (Int32.ofNat v))) (v := .int (Int32.ofNat v)) (fun _ => rfl) (fun kk => lv_ldc hx hb hown (hts _ (ev_hw_mem h2)) (ev_ok_dec hok rfl) kk) h
    | [_, i, j], h2, hs, hok =>
      cases hs
      have h2 : (match ev_strs[i]? with | some q => decide (q.1 = own) && decide (q.2.1 = idx) && Nat.beq j (ev_nums.getD i 0) | none => false) = true := h2
      split at h2
      · rename_i q hq
        simp only [Bool.and_eq_true, decide_eq_true_eq] at h2
        obtain ⟨⟨e1, e2⟩, e3⟩ := h2
        have hZ := hX.2.1 i q hq
        rw [e1, e2, ← Nat.eq_of_beq_eq_true e3] at hZ
        exact es_const (x := .inl (.retAddr j)) (v := .ref (ex j)) (fun _ => rfl) (fun kk => va_ldcS hx hb hown hZ (ev_ok_dec hok rfl) kk) h
      · cases h2
    | [], h2, hs, hok => cases hs
    | [_], h2, hs, hok => cases hs
    | _ :: _ :: _ :: _ :: _, h2, hs, hok => cases hs
  · cases hs
    exact es_const (x := .inl .null) (v := .null) (fun _ => rfl) (fun kk => lv_null hx hb (ev_ok_dec hok rfl) kk) h
  · exact es_loadI hs (fun hl kk => lv_iload_n hx hb (ev_ok_dec hok rfl) rfl hl kk) h
  · exact es_loadI hs (fun hl kk => lv_iload hx hb (ev_ok_dec hok rfl) hl kk) h
  · exact es_loadR hs (fun hl kk => lv_aload_n hx hb (ev_ok_dec hok rfl) rfl hl kk) (fun hl kk => lv_aload_nN hx hb (ev_ok_dec hok rfl) rfl hl kk) h
  · exact es_loadR hs (fun hl kk => lv_aload hx hb (ev_ok_dec hok rfl) hl kk) (fun hl kk => lv_aloadN hx hb (ev_ok_dec hok rfl) hl kk) h
  · exact es_storeI hs (fun a1 a2 a3 kk => lv_istore_n hx hb (ev_ok_dec hok rfl) rfl a1 a2 a3 kk) h
  · exact es_storeI hs (fun a1 a2 a3 kk => lv_istore hx hb (ev_ok_dec hok rfl) a1 a2 a3 kk) h
  · exact es_storeR hs (fun a1 a2 a3 kk => lv_astore_n hx hb (ev_ok_dec hok rfl) rfl a1 a2 a3 kk) (fun a1 a2 a3 kk => lv_astore_nN hx hb (ev_ok_dec hok rfl) rfl a1 a2 a3 kk) h
  · exact es_storeR hs (fun a1 a2 a3 kk => lv_astore hx hb (ev_ok_dec hok rfl) a1 a2 a3 kk) (fun a1 a2 a3 kk => lv_astoreN hx hb (ev_ok_dec hok rfl) a1 a2 a3 kk) h
  · -- iinc
    rename_i ki di
    dsimp only at hs
    split at hs
    · rename_i v hv
      split at hs
      · rename_i r hr
        obtain ⟨hlt, rfl⟩ := ev_bif hs
        have hlt : ki + 1 ≤ nL := by simpa [Nat.blt] using hlt
        exact es_iinc hv hr hlt (fun a1 a2 a3 a4 a5 kk => lv_iinc hx hb (ev_ok_dec hok rfl) a1 a2 a3 a4 a5 kk) h
      · cases hs
    · cases hs
  · -- dup
    split at hs
    · rename_i a S' heq
      cases heq
      obtain ⟨hc, rfl⟩ := ev_bif hs
      intro al ws H locs ls lv st h1 h2 h3 h4 h5 h6 h7 h8
      obtain ⟨va, st1, rfl, g1, g2⟩ := ev_st_cons h8
      exact lv_dup hx hb (ev_ok_dec hok rfl) (ev_rel_c1 hc g1) (h al ws H locs ls lv _ h1 h2 h3 h4 h5 h6 h7 ⟨g1, g1, g2⟩)
    · cases hs
  · -- dup_x1
    split at hs
    · rename_i a b S' heq
      cases heq
      obtain ⟨hc, rfl⟩ := ev_bif hs
      simp only [Bool.and_eq_true] at hc
      intro al ws H locs ls lv st h1 h2 h3 h4 h5 h6 h7 h8
      obtain ⟨va, st1, rfl, g1, g2⟩ := ev_st_cons h8
      obtain ⟨vb, st2, rfl, g3, g4⟩ := ev_st_cons g2
      exact lv_dup_x1 hx hb (ev_ok_dec hok rfl) (ev_rel_c1 hc.1 g1) (ev_rel_c1 hc.2 g3) (h al ws H locs ls lv _ h1 h2 h3 h4 h5 h6 h7 ⟨g1, g3, g1, g4⟩)
    · cases hs
  · -- pop
    split at hs
    · rename_i a S' heq
      cases heq
      obtain ⟨hc, rfl⟩ := ev_bif hs
      intro al ws H locs ls lv st h1 h2 h3 h4 h5 h6 h7 h8
      obtain ⟨va, st1, rfl, g1, g2⟩ := ev_st_cons h8
      exact lv_pop hx hb (ev_ok_dec hok rfl) (ev_rel_c1 hc g1) (h al ws H locs ls lv _ h1 h2 h3 h4 h5 h6 h7 g2)
    · cases hs
  · exact es_bin hs (fun kk => lv_iadd hx hb (ev_ok_dec hok rfl) kk) h
  · exact es_bin hs (fun kk => lv_isub hx hb (ev_ok_dec hok rfl) kk) h
  · exact es_bin hs (fun kk => lv_imul hx hb (ev_ok_dec hok rfl) kk) h
  · exact es_bin hs (fun kk => lv_iand hx hb (ev_ok_dec hok rfl) kk) h
  · exact es_bin hs (fun kk => lv_ixor hx hb (ev_ok_dec hok rfl) kk) h
  · exact es_bin hs (fun kk => lv_ishr hx hb (ev_ok_dec hok rfl) kk) h
  · exact es_bin hs (fun kk => lv_iushr hx hb (ev_ok_dec hok rfl) rfl kk) h
  · -- irem
    split at hs
    · rename_i pc1 L1 y x S1 w1 c1 n1 heq
      cases heq
      by_cases hy : y = 0
      · simp [hy] at hs
      · simp only [hy, decide_false, cond_false] at hs
        cases hs
        intro al ws H locs ls lv st h1 h2 h3 h4 h5 h6 h7 h8
        obtain ⟨va, st1, rfl, g1, g2⟩ := ev_st_cons h8
        obtain ⟨vb, st2, rfl, g3, g4⟩ := ev_st_cons g2
        have g1 : va = .int y := g1
        have g3 : vb = .int x := g3
        subst g1
        subst g3
        exact lv_irem hx hb (ev_ok_dec hok rfl) hy (h al ws H locs ls lv _ h1 h2 h3 h4 h5 h6 h7 ⟨rfl, g4⟩)
    · cases hs
  · exact es_un hs (fun kk => lv_i2b hx hb (ev_ok_dec hok rfl) rfl kk) h
  · exact es_un hs (fun kk => lv_i2c hx hb (ev_ok_dec hok rfl) rfl kk) h
  · -- i2l
    split at hs
    · rename_i pc1 L1 x S1 w1 c1 n1 heq
      cases heq
      cases hs
      intro al ws H locs ls lv st h1 h2 h3 h4 h5 h6 h7 h8
      obtain ⟨va, st1, rfl, g1, g2⟩ := ev_st_cons h8
      have g1 : va = .int x := g1
      subst g1
      exact lv_i2l hx hb (ev_ok_dec hok rfl) rfl (h al ws H locs ls lv _ h1 h2 h3 h4 h5 h6 h7 ⟨rfl, g2⟩)
    · cases hs
  · -- lcmp
    split at hs
    · rename_i pc1 L1 y x S1 w1 c1 n1 heq
      cases heq
      cases hs
      intro al ws H locs ls lv st h1 h2 h3 h4 h5 h6 h7 h8
      obtain ⟨va, st1, rfl, g1, g2⟩ := ev_st_cons h8
      obtain ⟨vb, st2, rfl, g3, g4⟩ := ev_st_cons g2
      have g1 : va = .long y := g1
      have g3 : vb = .long x := g3
      subst g1
      subst g3
      exact W.lcmp hx hb (ev_ok_dec hok rfl) (h al ws H locs ls lv _ h1 h2 h3 h4 h5 h6 h7 ⟨rfl, g4⟩)
    · cases hs
  · -- goto
    match ops, h2, hs, hok with
    | [t], h2, hs, hok =>
      cases hs
      have h2 : decide _ = true := h2
      rw [decide_eq_true_eq] at h2
      intro al ws H locs ls lv st h1 h2' h3 h4 h5 h6 h7 h8
      exact lv_goto hx hb (ev_ok_dec hok rfl) h2 (h al ws H locs ls lv st h1 h2' h3 h4 h5 h6 h7 h8)
    | [], h2, hs, hok => cases h2
    | _ :: _ :: _, h2, hs, hok => cases h2
  · -- if_icmp
    match ops, h2, hs, hok with
    | [t], h2, hs, hok =>
      have h2 : decide _ = true := h2
      rw [decide_eq_true_eq] at h2
      exact es_jump2 hx hb (ev_ok_dec hok rfl) h2 hs h
    | [], h2, hs, hok => cases h2
    | _ :: _ :: _, h2, hs, hok => cases h2
  · -- ifCond
    match ops, h2, hs, hok with
    | [t], h2, hs, hok =>
      have h2 : decide _ = true := h2
      rw [decide_eq_true_eq] at h2
      exact es_jump1 hx hb (ev_ok_dec hok rfl) h2 hs h
    | [], h2, hs, hok => cases h2
    | _ :: _ :: _, h2, hs, hok => cases h2
  · -- ifnull
    match ops, h2, hs, hok with
    | [t], h2, hs, hok =>
      have h2 : decide _ = true := h2
      rw [decide_eq_true_eq] at h2
      exact es_jnullT hx hb (ev_ok_dec hok rfl) h2 hs h
    | [], h2, hs, hok => cases h2
    | _ :: _ :: _, h2, hs, hok => cases h2
  · -- ifnonnull
    match ops, h2, hs, hok with
    | [t], h2, hs, hok =>
      have h2 : decide _ = true := h2
      rw [decide_eq_true_eq] at h2
      exact es_jnullF hx hb (ev_ok_dec hok rfl) h2 hs h
    | [], h2, hs, hok => cases h2
    | _ :: _ :: _, h2, hs, hok => cases h2
  · -- tableswitch
    rename_i dflt lo hi offs
    match ops, h2, hs, hok with
    | [], h2, hs, hok => cases h2
    | d :: ts, h2, hs, hok =>
      simp only [ev_ok, Bool.and_eq_true] at hok
      obtain ⟨len, hd, -⟩ := ev_dec_ok hok.1
      have h2 : (decide ((pc : Int) + dflt = (d : Int)) && decide (offs.toList.map (fun o => (pc : Int) + o) = ts.map (fun t : Nat => (t : Int)))) = true := h2
      simp only [Bool.and_eq_true, decide_eq_true_eq] at h2
      obtain ⟨h2, h3⟩ := h2
      split at hs
      · rename_i pc1 L1 x S1 w1 c1 n1 d1 ts1 heq1 heq2
        cases heq1
        cases heq2
        by_cases q1 : x.toInt < lo
        · simp only [q1, decide_true, cond_true] at hs
          cases hs
          exact es_tab hx hb hd (Or.inl ⟨Or.inl q1, h2⟩) h
        · simp only [q1, decide_false, cond_false] at hs
          by_cases q2 : hi < x.toInt
          · simp only [q2, decide_true, cond_true] at hs
            cases hs
            exact es_tab hx hb hd (Or.inl ⟨Or.inr q2, h2⟩) h
          · simp only [q2, decide_false, cond_false] at hs
            split at hs
            · rename_i t ht
              cases hs
              have h4 : (offs.toList.map (fun o => (pc : Int) + o))[(x.toInt - lo).toNat]? = some (t : Int) := by rw [h3, List.getElem?_map, ht]; rfl
              rw [List.getElem?_map] at h4
              cases h5 : offs.toList[(x.toInt - lo).toNat]? with
              | none => rw [h5] at h4; cases h4
              | some off =>
                rw [h5] at h4
                have h6 : (pc : Int) + off = (t : Int) := Option.some.inj h4
                exact es_tab hx hb hd (Or.inr ⟨q1, q2, off, by rw [← Array.getElem?_toList]; exact h5, h6⟩) h
            · cases hs
      · cases hs
  · -- arraylength
    unfold ev_alen at hs
    split at hs
    · rename_i pc1 L1 q S1 w1 c1 n1 heq
      cases heq
      split at hs
      · rename_i t N d wr hw
        cases hs
        exact es_alen hx hb (ev_ok_dec hok rfl) hK hw h
      · cases hs
    · rename_i pc1 L1 j S1 w1 c1 n1 heq
      cases heq
      cases h9 : (Nat.ble 1000 j && Nat.blt (j - 1000) ev_kb.length) with
      | true =>
        rw [h9] at hs
        cases hs
        simp only [Bool.and_eq_true] at h9
        obtain ⟨j', rfl⟩ : ∃ j', j = 1000 + j' := ⟨j - 1000, by have := Nat.le_of_ble_eq_true h9.1; omega⟩
        rw [Nat.add_sub_cancel_left] at h h9
        rcases ev_kbT hX (ev_blt h9.2) with ⟨-, z⟩ | ⟨-, z⟩
        · exact es_alenX hx hb (ev_ok_dec hok rfl) z h
        · exact es_alenX hx hb (ev_ok_dec hok rfl) z h
      | false =>
        rw [h9] at hs
        simp only [cond_false] at hs
        obtain ⟨h10, rfl⟩ := ev_bif hs
        simp only [Bool.and_eq_true] at h10
        have e := Nat.eq_of_beq_eq_true h10.1
        subst e
        rcases hsc with rfl | ⟨xs, g1, g2, g3, g4⟩
        · have := h10.2
          simp [Nat.blt] at this
        · exact es_slen hx hb (ev_ok_dec hok rfl) g1 g2 g3 h
    · cases hs
  · -- iaload
    unfold ev_ald at hs
    split at hs
    · rename_i pc1 L1 x q S1 w1 c1 n1 heq
      cases heq
      split at hs
      · rename_i u N d wr hw
        cases h9 : Nat.beq 0 u with
        | false => rw [h9] at hs; cases hs
        | true =>
          rw [h9] at hs
          have e := Nat.eq_of_beq_eq_true h9
          subst e
          simp only [cond_true] at hs
          split at hs
          · rename_i i hi
            cases hs
            exact es_ald0 hx hb (ev_ok_dec hok rfl) hK hT hw hi h
          · cases hs
      · cases hs
    · rename_i pc1 L1 x j S1 w1 c1 n1 heq
      cases heq
      cases h8 : (Nat.ble 1000 j && Nat.blt (j - 1000) ev_kb.length && Nat.beq 0 (ev_oty ev_kb j)) with
      | true =>
        rw [h8] at hs
        simp only [Bool.and_eq_true] at h8
        obtain ⟨j', rfl⟩ : ∃ j', j = 1000 + j' := ⟨j - 1000, by have := Nat.le_of_ble_eq_true h8.1.1; omega⟩
        rw [Nat.add_sub_cancel_left] at hs h8
        simp only [cond_true] at hs
        split at hs
        · rename_i i hi
          cases hs
          rcases ev_kbT hX (ev_blt h8.1.2) with ⟨z0, z⟩ | ⟨-, z⟩
          · rw [z0] at h8
            cases h8.2
          · exact es_aldXi (v := .inl (.int ((ev_kb.getD j' []).getD i 0))) hx hb (ev_ok_dec hok rfl) z hi (fun _ => rfl) h
        · cases hs
      | false =>
      rw [h8] at hs
      simp only [cond_false] at hs
      cases h9 : (Nat.beq j 2000 && Nat.beq 0 0) with
      | false => rw [h9] at hs; cases hs
      | true =>
        rw [h9] at hs
        simp only [Bool.and_eq_true] at h9
        have e := Nat.eq_of_beq_eq_true h9.1
        subst e
        simp only [cond_true] at hs
        split at hs
        · rename_i i hi
          split at hs
          · rename_i v hv
            obtain ⟨-, rfl⟩ := ev_bif hs
            rcases hsc with rfl | ⟨xs, g1, g2, g3, g4⟩
            · simp at hv
            · exact es_sld hx hb (ev_ok_dec hok rfl) g1 g2 g3 hi (g4 i v hv) h
          · cases hs
        · cases hs
    · cases hs
  · -- baload
    unfold ev_ald at hs
    split at hs
    · rename_i pc1 L1 x q S1 w1 c1 n1 heq
      cases heq
      split at hs
      · rename_i u N d wr hw
        cases h9 : Nat.beq 1 u with
        | false => rw [h9] at hs; cases hs
        | true =>
          rw [h9] at hs
          have e := Nat.eq_of_beq_eq_true h9
          subst e
          simp only [cond_true] at hs
          split at hs
          · rename_i i hi
            cases hs
            exact es_ald1 hx hb (ev_ok_dec hok rfl) hK hT hw hi h
          · cases hs
      · cases hs
    · rename_i pc1 L1 x j S1 w1 c1 n1 heq
      cases heq
      cases h9 : (Nat.ble 1000 j && Nat.blt (j - 1000) ev_kb.length && Nat.beq 1 (ev_oty ev_kb j)) with
      | true =>
        rw [h9] at hs
        simp only [Bool.and_eq_true] at h9
        obtain ⟨j', rfl⟩ : ∃ j', j = 1000 + j' := ⟨j - 1000, by have := Nat.le_of_ble_eq_true h9.1.1; omega⟩
        rw [Nat.add_sub_cancel_left] at hs h9
        simp only [cond_true] at hs
        split at hs
        · rename_i i hi
          cases hs
          rcases ev_kbT hX (ev_blt h9.1.2) with ⟨-, z⟩ | ⟨z0, z⟩
          · exact es_aldX (v := .inl (.int ((ev_kb.getD j' []).getD i 0))) hx hb (ev_ok_dec hok rfl) z hi (fun _ => rfl) h
          · rw [z0] at h9
            cases h9.2
        · cases hs
      | false =>
        rw [h9] at hs
        rw [show Nat.beq 1 0 = false from rfl, Bool.and_false] at hs
        cases hs
    · cases hs
  · -- laload
    unfold ev_ald at hs
    split at hs
    · rename_i pc1 L1 x q S1 w1 c1 n1 heq
      cases heq
      split at hs
      · rename_i u N d wr hw
        cases h9 : Nat.beq 2 u with
        | false => rw [h9] at hs; cases hs
        | true =>
          rw [h9] at hs
          have e := Nat.eq_of_beq_eq_true h9
          subst e
          simp only [cond_true] at hs
          split at hs
          · rename_i i hi
            cases hs
            exact es_ald2 hx hb (ev_ok_dec hok rfl) hK hT hw hi h
          · cases hs
      · cases hs
    · rename_i pc1 L1 x j S1 w1 c1 n1 heq
      cases heq
      have e2 : Nat.beq 2 (ev_oty ev_kb j) = false := by
        unfold ev_oty
        cases Nat.beq (j - 1000 + 1) ev_kb.length <;> rfl
      rw [e2, show Nat.beq 2 0 = false from rfl, Bool.and_false, Bool.and_false] at hs
      cases hs
    · cases hs
  · -- iastore
    unfold ev_ast at hs
    split at hs
    · rename_i pc1 L1 v x q S1 w1 c1 n1 heq
      cases heq
      split at hs
      · rename_i u N d wr hw
        cases h9 : Nat.beq 0 u with
        | false => rw [h9] at hs; cases hs
        | true =>
          rw [h9] at hs
          have e := Nat.eq_of_beq_eq_true h9
          subst e
          simp only [cond_true] at hs
          split at hs
          · rename_i i r hi hr
            cases hs
            exact es_ast0 hx hb (ev_ok_dec hok rfl) hK hT hw hi hr h
          · cases hs
      · cases hs
    · cases hs
  · -- bastore
    unfold ev_ast at hs
    split at hs
    · rename_i pc1 L1 v x q S1 w1 c1 n1 heq
      cases heq
      split at hs
      · rename_i u N d wr hw
        cases h9 : Nat.beq 1 u with
        | false => rw [h9] at hs; cases hs
        | true =>
          rw [h9] at hs
          have e := Nat.eq_of_beq_eq_true h9
          subst e
          simp only [cond_true] at hs
          split at hs
          · rename_i i r hi hr
            cases hs
            exact es_ast1 hx hb (ev_ok_dec hok rfl) hK hT hw hi hr h
          · cases hs
      · cases hs
    · cases hs
  · -- lastore
    unfold ev_ast at hs
    split at hs
    · rename_i pc1 L1 v x q S1 w1 c1 n1 heq
      cases heq
      split at hs
      · rename_i u N d wr hw
        cases h9 : Nat.beq 2 u with
        | false => rw [h9] at hs; cases hs
        | true =>
          rw [h9] at hs
          have e := Nat.eq_of_beq_eq_true h9
          subst e
          simp only [cond_true] at hs
          split at hs
          · rename_i i r hi hr
            cases hs
            unfold ev_put at hr
            simp only at hr
            split at hr
            · rename_i y
              cases hr
              exact es_ast2 hx hb (ev_ok_dec hok rfl) hK hT hw hi h
            · cases hr
          · cases hs
      · cases hs
    · cases hs
  · -- aastore
    unfold ev_aast at hs
    split at hs
    · rename_i pc1 L1 v x q S1 w1 c1 n1 heq
      cases heq
      split at hs
      · rename_i u N d wr hw
        cases hc0 : (Nat.ble 4 u && Nat.ble u 10 && ev_may (ev_tcl u).1 (ev_tcl u).2 w v) with
        | true =>
          rw [hc0] at hs
          simp only [cond_true] at hs
          split at hs
          · rename_i i hi
            cases hs
            simp only [Bool.and_eq_true] at hc0
            obtain ⟨⟨hu1, hu2⟩, hmay⟩ := hc0
            have hu1 := Nat.le_of_ble_eq_true hu1
            have hu2 := Nat.le_of_ble_eq_true hu2
            unfold ev_may at hmay
            split at hmay
            · rename_i qk
              have hcase : u = 4 ∨ u = 5 ∨ u = 6 ∨ u = 7 ∨ u = 8 ∨ u = 9 ∨ u = 10 := by omega
              split at hmay
              · rename_i cj fs hk
                have hm := Nat.eq_of_beq_eq_true hmay
                rcases hcase with rfl | rfl | rfl | rfl | rfl | rfl | rfl
                · have hm : (0 : Nat) = cj + 1 := hm
                  omega
                · have hm : (0 : Nat) = cj + 1 := hm
                  omega
                · have hm : (18 : Nat) = cj + 1 := hm
                  have e : cj = 17 := by omega
                  subst e
                  exact es_aastO hx hb (ev_ok_dec hok rfl) hK hT (by decide) (by decide) hw hi hk rfl rfl h
                · have hm : (15 : Nat) = cj + 1 := hm
                  have e : cj = 14 := by omega
                  subst e
                  exact es_aastO hx hb (ev_ok_dec hok rfl) hK hT (by decide) (by decide) hw hi hk rfl rfl h
                · have hm : (0 : Nat) = cj + 1 := hm
                  omega
                · have hm : (19 : Nat) = cj + 1 := hm
                  have e : cj = 18 := by omega
                  subst e
                  exact es_aastO hx hb (ev_ok_dec hok rfl) hK hT (by decide) (by decide) hw hi hk rfl rfl h
                · have hm : (16 : Nat) = cj + 1 := hm
                  have e : cj = 15 := by omega
                  subst e
                  exact es_aastO hx hb (ev_ok_dec hok rfl) hK hT (by decide) (by decide) hw hi hk rfl rfl h
              · rename_i u2 N2 d2 wr2 hk
                have hm := Nat.eq_of_beq_eq_true hmay
                rcases hcase with rfl | rfl | rfl | rfl | rfl | rfl | rfl
                · have hm : (3 : Nat) = u2 + 1 := hm
                  have e : u2 = 2 := by omega
                  subst e
                  exact es_aastA (pl := 3007) (ft := .long) hx hb (ev_ok_dec hok rfl) hK hT hX (by decide) (by decide) hw hi hk rfl rfl (fun C h => by cases h) (by decide +kernel) rfl h
                · have hm : (9 : Nat) = u2 + 1 := hm
                  have e : u2 = 8 := by omega
                  subst e
                  exact es_aastA (pl := 13024) (ft := .boolean) hx hb (ev_ok_dec hok rfl) hK hT hX (by decide) (by decide) hw hi hk rfl rfl (fun C h => by cases h) (by decide +kernel) rfl h
                all_goals (have hm : (0 : Nat) = u2 + 1 := hm; omega)
              · cases hmay
            · cases hmay
          · cases hs
        | false =>
          rw [hc0] at hs
          simp only [cond_false] at hs
          unfold ev_ast at hs
          dsimp only at hs
          rw [hw] at hs
          dsimp only at hs
          cases h9 : Nat.beq 3 u with
          | false => rw [h9] at hs; cases hs
          | true =>
            rw [h9] at hs
            have e := Nat.eq_of_beq_eq_true h9
            subst e
            simp only [cond_true] at hs
            split at hs
            · rename_i i r hi hr
              cases hs
              unfold ev_put at hr
              simp only at hr
              split at hr
              · rename_i j
                obtain ⟨hj, rfl⟩ := ev_bif hr
                exact es_ast3 hx hb (ev_ok_dec hok rfl) hK hT (hX.2.2.1 j (ev_blt hj)).1 hw hi h
              · cases hr
            · cases hs
      · cases hs
    · cases hs
  · -- newarray
    rename_i aty
    match ops, h2, hs, hok with
    | [pl, t], h2, hs, hok =>
      have h2 : (ev_hw pl (.arrayClass (newarray.typeOf aty)) && decide (ev_tys[t]? = some (newarray.typeOf aty))) = true := h2
      simp only [Bool.and_eq_true, decide_eq_true_eq] at h2
      cases h9 : (Nat.blt t 3 || Nat.beq t 8) with
      | false => simp only [h9, cond_false] at hs; cases hs
      | true =>
        simp only [h9, cond_true] at hs
        have h9 : t < 3 ∨ t = 8 := by
          simp only [Bool.or_eq_true] at h9
          rcases h9 with h9 | h9
          · exact Or.inl (by have : t + 1 ≤ 3 := by simpa [Nat.blt] using h9
                             omega)
          · exact Or.inr (Nat.eq_of_beq_eq_true h9)
        unfold ev_newarr at hs
        split at hs
        · rename_i pc1 L1 x S1 w1 c1 n1 heq
          cases heq
          split at hs
          · rename_i i hi
            by_cases q1 : i < 0
            · simp [q1] at hs
            · simp only [q1, decide_false, cond_false] at hs
              obtain ⟨q2, rfl⟩ := ev_bif hs
              rw [ev_int_some hi]
              exact es_newa hx hb (ev_ok_dec hok rfl) (hts _ (ev_hw_mem h2.1)) hK hT hA h9 h2.2 q1 rfl (Nat.le_of_ble_eq_true q2) hkc hkn h
          · cases hs
        · cases hs
    | [], h2, hs, hok => cases h2
    | [_], h2, hs, hok => cases h2
    | _ :: _ :: _ :: _, h2, hs, hok => cases h2
  · -- anewarray
    rename_i idx
    match ops, h2, hs, hok with
    | [pl, t, pl2], h2, hs, hok =>
      cases h9 : (Nat.blt 2 t && !Nat.beq t 8) with
      | false => simp only [h9, cond_false] at hs; cases hs
      | true =>
        simp only [h9, cond_true] at hs
        simp only [Bool.and_eq_true] at h9
        obtain ⟨h9, h98⟩ := h9
        have h9 : 2 + 1 ≤ t := by simpa [Nat.blt] using h9
        have h98 : t ≠ 8 := fun e => by subst e; cases h98
        unfold ev_newarr at hs
        split at hs
        · rename_i pc1 L1 x S1 w1 c1 n1 heq
          cases heq
          split at hs
          · rename_i i hi
            by_cases q1 : i < 0
            · simp [q1] at hs
            · simp only [q1, decide_false, cond_false] at hs
              obtain ⟨q2, rfl⟩ := ev_bif hs
              rw [ev_int_some hi]
              have h2 : (match ev_tys[t]? with | some (.object C) => ev_hw pl (.classLink own idx C) && ev_nw pl2 (.arrayOver (.object C)) | some (.array ft) => ev_hw pl (.classLink own idx (FieldType.array ft).toString) && ev_nw pl2 (.arrayOver (.array ft)) | _ => false) = true := h2
              split at h2
              · rename_i C hC
                simp only [Bool.and_eq_true] at h2
                exact es_newq hx hb (ev_ok_dec hok rfl) hown (hts _ (ev_hw_mem h2.1)) (hX.1 _ (ev_nw_mem h2.2).1 (ev_nw_mem h2.2).2) hK hT hA h9 h98 hC q1 rfl (Nat.le_of_ble_eq_true q2) hkc hkn h
              · rename_i ft hC
                simp only [Bool.and_eq_true] at h2
                exact es_newA hx hb (ev_ok_dec hok rfl) hown (hts _ (ev_hw_mem h2.1)) (over_moved (Vm.Alike.refl _) (hX.1 _ (ev_nw_mem h2.2).1 (ev_nw_mem h2.2).2)) hK hT hA h9 h98 hC q1 rfl (Nat.le_of_ble_eq_true q2) hkc hkn h
              · cases h2
          · cases hs
        · cases hs
    | [], h2, hs, hok => cases h2
    | [_], h2, hs, hok => cases h2
    | [_, _], h2, hs, hok => cases h2
    | _ :: _ :: _ :: _ :: _, h2, hs, hok => cases h2
  · -- new
    rename_i idx
    match ops, h2, hs, hok with
    | [pl1, pl2, pl3, ci], h2, hs, hok =>
      dsimp only at hs
      split at hs
      · rename_i fs hfs
        cases hs
        have h2 : (match ev_cl[ci]? with | some (C, _, N) => ev_hw pl1 (.classLink own idx C) && ev_hw pl2 (.instantiable C N) && ev_hw pl3 (.initialized C) | none => false) = true := h2
        split at h2
        · rename_i C T N hC
          simp only [Bool.and_eq_true] at h2
          obtain ⟨c1, c2, c3, c4, c5⟩ := ev_cok_all ci C T N hC
          obtain ⟨c6, vs, c7, c8⟩ := c5 fs hfs
          exact es_new hx hb (ev_ok_dec hok rfl) hts c1 (ev_Y ci) c2 hown (hts _ (ev_hw_mem h2.1.1)) (hts _ (ev_hw_mem h2.1.2)) (hts _ (ev_hw_mem h2.2)) hK hA hC c7 (fun al => c8 al ex) c6 hkc hkn h
        · cases h2
      · cases hs
    | [], h2, hs, hok => cases hs
    | [_], h2, hs, hok => cases hs
    | [_, _], h2, hs, hok => cases hs
    | [_, _, _], h2, hs, hok => cases hs
    | _ :: _ :: _ :: _ :: _ :: _, h2, hs, hok => cases hs
  · -- getfield
    rename_i idx
    unfold ev_getf at hs
    split at hs
    · rename_i pc1 L1 o S1 w1 c1 n1 heq
      cases heq
      split at hs
      · rename_i kd pl ci j q
        have h2 : (match ev_cl[ci]? with | some (C, T, N) => Nat.blt j N && ev_gl own idx C T j kd pl | none => false) = true := h2
        split at hs
        · rename_i cj fs hw
          cases h9 : Nat.beq ci cj with
          | false => rw [h9] at hs; cases hs
          | true =>
            rw [h9] at hs
            have e := Nat.eq_of_beq_eq_true h9
            subst e
            simp only [cond_true] at hs
            split at hs
            · rename_i v hv
              cases hs
              split at h2
              · rename_i C T N hC
                simp only [Bool.and_eq_true] at h2
                obtain ⟨c1, c2, c3, c4, -⟩ := ev_cok_all ci C T N hC
                have hj : j + 1 ≤ N := by simpa [Nat.blt] using h2.1
                refine es_get hx hb (ev_ok_dec hok rfl) hts c1 hown hK hC hj ?_ hw hv h
                rcases ev_gl_ok h2.2 with ⟨-, z⟩ | ⟨host, z1, z2, -⟩
                · exact Or.inl (hts _ z)
                · exact Or.inr ⟨host, va_Nw.use rfl (hX.1 _ z1 z2)⟩
              · cases h2
            · cases hs
        · cases hs
      · rename_i pl fno j
        cases h9 : Nat.blt j ev_jk with
        | false => rw [h9] at hs; cases hs
        | true =>
          rw [h9] at hs
          have hj := hX.2.2.1 j (ev_blt h9)
          simp only [cond_true] at hs
          cases h10 : Nat.beq fno 0 with
          | true =>
            rw [h10] at hs
            cases hs
            have e := Nat.eq_of_beq_eq_true h10
            subst e
            exact es_getX (v := .inl (.retAddr (1000 + j))) hx hb (ev_ok_dec hok rfl) hown hj.2.2.1 (hts _ (ev_hw_mem h2)) (fun _ => rfl) h
          | false =>
            rw [h10] at hs
            simp only [cond_false] at hs
            obtain ⟨h11, rfl⟩ := ev_bif hs
            have e := Nat.eq_of_beq_eq_true h11
            subst e
            exact es_getX (v := ev_zero) hx hb (ev_ok_dec hok rfl) hown hj.2.1 (hts _ (ev_hw_mem h2)) (fun _ => rfl) h
      · cases hs
    · cases hs
  · -- putfield
    rename_i idx
    unfold ev_putf at hs
    split at hs
    · rename_i pc1 L1 v q S1 w1 c1 n1 kd pl ci j tc heq
      cases heq
      have h2 : (match ev_cl[ci]? with | some (C, T, N) => Nat.blt j N && ev_tc tc (ev_Y ci j) && (ev_gl own idx C T j kd pl && (decide ((T j).2.2.2 = false) || (Nat.beq kd 0 && decide (nm = "<init>") && decide ((T j).1 = own)))) | none => false) = true := h2
      split at hs
      · rename_i cj fs hw
        obtain ⟨h9, rfl⟩ := ev_bif hs
        simp only [Bool.and_eq_true] at h9
        have e := Nat.eq_of_beq_eq_true h9.1.1
        subst e
        have hl : j + 1 ≤ fs.length := by simpa [Nat.blt] using h9.2
        split at h2
        · rename_i C T N hC
          simp only [Bool.and_eq_true] at h2
          obtain ⟨c1, c2, c3, c4, -⟩ := ev_cok_all ci C T N hC
          have hj : j + 1 ≤ N := by simpa [Nat.blt] using h2.1.1
          refine es_put (tc := tc) hx hb (ev_ok_dec hok rfl) hts c1 (ev_Y ci) c2 c3 hown hK hC hj ?_ ?_ hw h9.1.2 hl h
          · simp only [Bool.or_eq_true, Bool.and_eq_true, decide_eq_true_eq] at h2
            rcases ev_gl_ok h2.2.1 with ⟨-, z⟩ | ⟨host, z1, z2, z3⟩
            · refine Or.inl ⟨hts _ z, ?_⟩
              rcases h2.2.2 with y | y
              · exact Or.inl y
              · cases hq : (T j).2.2.2 with
                | false => exact Or.inl rfl
                | true => exact Or.inr ⟨rfl, hnm.trans y.1.2, y.2⟩
            · refine Or.inr ⟨host, va_Nw.use rfl (hX.1 _ z1 z2), ?_⟩
              rcases h2.2.2 with y | y
              · exact y
              · exact absurd (Nat.eq_of_beq_eq_true y.1.1) z3
          · exact ev_tc_ok h2.1.2
        · cases h2
      · cases hs
    · cases hs
  · -- getstatic
    rename_i idx
    match ops, h2, hs, hok with
    | [pl], h2, hs, hok =>
      cases hs
      intro al ws H locs ls lv st h1 h2' h3 h4 h5 h6 h7 h8
      exact va_gets hx hb hX.2.2.2.2.2.1 h5 hown (hts _ (ev_hw_mem h2)) (fun x hq => hq) (ev_ok_dec hok rfl) (h al ws H locs ls lv _ h1 h2' h3 h4 h5 h6 h7 ⟨rfl, h8⟩)
    | [pl, _], h2, hs, hok =>
      cases hs
      intro al ws H locs ls lv st h1 h2' h3 h4 h5 h6 h7 h8
      rcases hX.2.2.2.2.2.2.1 with hZ | ⟨t, hZ⟩
      · exact va_gets hx hb hZ h5 hown (hts _ (ev_hw_mem h2)) (fun x hq => hq) (ev_ok_dec hok rfl) (h al ws H locs ls lv _ h1 h2' h3 h4 h5 h6 h7 ⟨Or.inl rfl, h8⟩)
      · exact va_gets hx hb hZ h5 hown (hts _ (ev_hw_mem h2)) (fun x hq => hq) (ev_ok_dec hok rfl) (h al ws H locs ls lv _ h1 h2' h3 h4 h5 h6 h7 ⟨Or.inr ⟨t, rfl⟩, h8⟩)
    | [pl, _, _], h2, hs, hok =>
      cases hs
      obtain ⟨z1, z2⟩ := ev_nw_mem h2
      intro al ws H locs ls lv st h1 h2' h3 h4 h5 h6 h7 h8
      exact va_getsN hx hb hX.2.2.2.2.1 h5 hown (va_Nw.use rfl (hX.1 _ z1 z2)) (fun x hq => hq) (ev_ok_dec hok rfl) (h al ws H locs ls lv _ h1 h2' h3 h4 h5 h6 h7 ⟨rfl, h8⟩)
    | [], h2, hs, hok => cases hs
    | _ :: _ :: _ :: _ :: _, h2, hs, hok => cases hs
  · -- lconst
    rename_i kk
    cases hs
    exact es_const (x := .inl (.long (Int64.ofNat kk.val))) (v := .long (Int64.ofNat kk.val)) (fun _ => rfl) (fun z => lv_lconst hx hb (ev_ok_dec hok rfl) rfl z) h
  · -- ldc_w
    rename_i idx
    match ops, h2, hs, hok with
    | [pl, v], h2, hs, hok =>
      cases hs
      exact es_const (x := .inl (.int (Int32.ofNat v))) (v := .int (Int32.ofNat v)) (fun _ => rfl) (fun kk => lv_ldcw hx hb hown (hts _ (ev_hw_mem h2)) (ev_ok_dec hok rfl) kk) h
    | [_, i, j], h2, hs, hok =>
      cases hs
      have h2 : (match ev_strs[i]? with | some q => decide (q.1 = own) && decide (q.2.1 = idx) && Nat.beq j (ev_nums.getD i 0) | none => false) = true := h2
      split at h2
      · rename_i q hq
        simp only [Bool.and_eq_true, decide_eq_true_eq] at h2
        obtain ⟨⟨e1, e2⟩, e3⟩ := h2
        have hZ := hX.2.1 i q hq
        rw [e1, e2, ← Nat.eq_of_beq_eq_true e3] at hZ
        exact es_const (x := .inl (.retAddr j)) (v := .ref (ex j)) (fun _ => rfl) (fun kk => ev_ldcSw hx hb hown hZ (ev_ok_dec hok rfl) kk) h
      · cases h2
    | [], h2, hs, hok => cases hs
    | [_], h2, hs, hok => cases hs
    | _ :: _ :: _ :: _ :: _, h2, hs, hok => cases hs
  · -- ldc2_w
    rename_i idx
    match ops, h2, hs, hok with
    | [pl, v], h2, hs, hok =>
      cases hs
      exact es_const (x := .inl (.long (Int64.ofNat v))) (v := .long (Int64.ofNat v)) (fun _ => rfl) (fun kk => lv_ldc2 hx hb hown (hts _ (ev_hw_mem h2)) (ev_ok_dec hok rfl) kk) h
    | [], h2, hs, hok => cases hs
    | [_], h2, hs, hok => cases hs
    | _ :: _ :: _ :: _, h2, hs, hok => cases hs
  · exact es_loadL hs (fun hl kk => lv_lload_n hx hb (ev_ok_dec hok rfl) rfl hl kk) h
  · exact es_loadL hs (fun hl kk => lv_lload hx hb (ev_ok_dec hok rfl) hl kk) h
  · exact es_storeL hs (fun a1 a2 a3 kk => lv_lstore_n hx hb (ev_ok_dec hok rfl) rfl a1 a2 a3 kk) h
  · exact es_storeL hs (fun a1 a2 a3 kk => lv_lstore hx hb (ev_ok_dec hok rfl) a1 a2 a3 kk) h
  · exact es_bin hs (fun kk => lv_ior hx hb (ev_ok_dec hok rfl) kk) h
  · exact es_bin hs (fun kk => lv_ishl hx hb (ev_ok_dec hok rfl) kk) h
  · exact es_un hs (fun kk => lv_ineg hx hb (ev_ok_dec hok rfl) kk) h
  · exact es_un hs (fun kk => lv_i2s hx hb (ev_ok_dec hok rfl) rfl kk) h
  · -- idiv
    split at hs
    · rename_i pc1 L1 y x S1 w1 c1 n1 heq
      cases heq
      by_cases hy : y = 0
      · simp [hy] at hs
      · simp only [hy, decide_false, cond_false] at hs
        cases hs
        intro al ws H locs ls lv st h1 h2 h3 h4 h5 h6 h7 h8
        obtain ⟨va, st1, rfl, g1, g2⟩ := ev_st_cons h8
        obtain ⟨vb, st2, rfl, g3, g4⟩ := ev_st_cons g2
        have g1 : va = .int y := g1
        have g3 : vb = .int x := g3
        subst g1
        subst g3
        exact lv_idiv hx hb (ev_ok_dec hok rfl) hy (h al ws H locs ls lv _ h1 h2 h3 h4 h5 h6 h7 ⟨rfl, g4⟩)
    · cases hs
  · -- l2i
    split at hs
    · rename_i pc1 L1 x S1 w1 c1 n1 heq
      cases heq
      cases hs
      intro al ws H locs ls lv st h1 h2 h3 h4 h5 h6 h7 h8
      obtain ⟨va, st1, rfl, g1, g2⟩ := ev_st_cons h8
      have g1 : va = .long x := g1
      subst g1
      exact lv_l2i hx hb (ev_ok_dec hok rfl) rfl (h al ws H locs ls lv _ h1 h2 h3 h4 h5 h6 h7 ⟨rfl, g2⟩)
    · cases hs
  · exact es_binL hs (fun kk => lv_ladd hx hb (ev_ok_dec hok rfl) kk) h
  · exact es_binL hs (fun kk => lv_lsub hx hb (ev_ok_dec hok rfl) kk) h
  · exact es_binL hs (fun kk => lv_lmul hx hb (ev_ok_dec hok rfl) kk) h
  · exact es_binL hs (fun kk => lv_land hx hb (ev_ok_dec hok rfl) kk) h
  · exact es_binL hs (fun kk => lv_lor hx hb (ev_ok_dec hok rfl) kk) h
  · exact es_binL hs (fun kk => lv_lxor hx hb (ev_ok_dec hok rfl) kk) h
  · -- ldiv
    split at hs
    · rename_i pc1 L1 y x S1 w1 c1 n1 heq
      cases heq
      by_cases hy : y = 0
      · simp [hy] at hs
      · simp only [hy, decide_false, cond_false] at hs
        cases hs
        intro al ws H locs ls lv st h1 h2 h3 h4 h5 h6 h7 h8
        obtain ⟨va, st1, rfl, g1, g2⟩ := ev_st_cons h8
        obtain ⟨vb, st2, rfl, g3, g4⟩ := ev_st_cons g2
        have g1 : va = .long y := g1
        have g3 : vb = .long x := g3
        subst g1
        subst g3
        exact lv_ldiv hx hb (ev_ok_dec hok rfl) hy (h al ws H locs ls lv _ h1 h2 h3 h4 h5 h6 h7 ⟨rfl, g4⟩)
    · cases hs
  · exact es_shL hs (fun kk => lv_lshl hx hb (ev_ok_dec hok rfl) rfl kk) h
  · exact es_shL hs (fun kk => lv_lshr hx hb (ev_ok_dec hok rfl) rfl kk) h
  · exact es_shL hs (fun kk => lv_lushr hx hb (ev_ok_dec hok rfl) rfl kk) h
  · -- dup2
    split at hs
    · rename_i a b S' heq
      cases heq
      obtain ⟨hc, rfl⟩ := ev_bif hs
      simp only [Bool.and_eq_true] at hc
      intro al ws H locs ls lv st h1 h2 h3 h4 h5 h6 h7 h8
      obtain ⟨va, st1, rfl, g1, g2⟩ := ev_st_cons h8
      obtain ⟨vb, st2, rfl, g3, g4⟩ := ev_st_cons g2
      exact lv_dup2_11 hx hb (ev_ok_dec hok rfl) (ev_rel_c1 hc.1 g1) (ev_rel_c1 hc.2 g3) (h al ws H locs ls lv _ h1 h2 h3 h4 h5 h6 h7 ⟨g1, g3, g1, g3, g4⟩)
    · cases hs
  · -- aaload
    unfold ev_aald at hs
    split at hs
    · rename_i pc1 L1 x q S1 w1 c1 n1 heq
      cases heq
      split at hs
      · rename_i u N d wr hw
        cases h9 : (Nat.ble 3 u && Nat.ble u 10 && !Nat.beq u 8) with
        | false => rw [h9] at hs; cases hs
        | true =>
          rw [h9] at hs
          simp only [cond_true] at hs
          split at hs
          · rename_i i hi
            obtain ⟨-, rfl⟩ := ev_bif hs
            simp only [Bool.and_eq_true] at h9
            exact es_aald hx hb (ev_ok_dec hok rfl) hK hT (Nat.le_of_ble_eq_true h9.1.1) (fun e => by subst e; cases h9.2) hw hi h
          · cases hs
      · cases hs
    · cases hs
  · -- lookupswitch
    rename_i dflt ps
    match ops, h2, hs, hok with
    | [], h2, hs, hok => cases h2
    | d :: ts, h2, hs, hok =>
      simp only [ev_ok, Bool.and_eq_true] at hok
      obtain ⟨len, hd, -⟩ := ev_dec_ok hok.1
      have h2 : (decide ((pc : Int) + dflt = (d : Int)) && decide (ps.toList.map (fun q => (pc : Int) + q.2) = ts.map (fun t : Nat => (t : Int))) && (ps.toList.zip (ps.toList.drop 1)).all (fun (a, next) => a.1 < next.1)) = true := h2
      rw [Bool.and_eq_true, Bool.and_eq_true] at h2
      obtain ⟨⟨y1, y2⟩, y3⟩ := h2
      split at hs
      · rename_i pc1 L1 x S1 w1 c1 n1 d1 ts1 heq1 heq2
        cases heq1
        cases heq2
        cases hs
        exact es_lk hx hb hd y3 (of_decide_eq_true y1) (of_decide_eq_true y2) h
      · cases hs
  · cases hs
end EvDisp
