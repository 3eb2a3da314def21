/-! The further instructions hold of the machine -/
theorem ev_kb_ne : ∀ i, i < 79 → ∀ j, j < 79 → ev_kb.getD i [] = ev_kb.getD j [] → i = j := by decide +kernel
theorem ev_kb_short : ∀ i, i < 79 → (ev_kb.getD i []).length < 1000 := by decide +kernel
theorem ev_list_ext {a b : List Int32} (hl : a.length = b.length) (h : ∀ t, t < a.length → a.getD t 0 = b.getD t 0) : a = b := by
  refine List.ext_getElem hl fun t h1 h2 => ?_
  have z := h t h1
  rw [List.getD_eq_getElem?_getD, List.getD_eq_getElem?_getD, List.getElem?_eq_getElem h1, List.getElem?_eq_getElem h2] at z
  exact z
/-- constants of different texts are different objects -/
theorem ev_ex_inj {ex : Nat → Nat} {A : Nat → Prop} {U : State} {H : Heap} (hX : ev_X ex A U H) {i j : Nat} (hi : i < ev_jk) (hj : j < ev_jk) (he : ex i = ex j) : i = j := by
  obtain ⟨-, -, ⟨cf, k, n, f, cell, a1, a2, a3, a4, a5, a6⟩, ⟨c1, b1, b2, b3, b4, b5, b6, b7⟩⟩ := hX.2.2.1 i hi
  obtain ⟨-, -, ⟨cf', k', n', f', cell', a1', a2', a3', a4', a5', a6'⟩, ⟨c1', b1', b2', b3', b4', b5', b6', b7'⟩⟩ := hX.2.2.1 j hj
  cases a1.symm.trans a1'
  rw [he] at a3
  cases a3.symm.trans a3'
  have e : ex (1000 + i) = ex (1000 + j) := Value.ref.inj (Option.some.inj (a5.symm.trans a5'))
  rw [e] at b1
  cases b1.symm.trans b1'
  have hs1 := ev_kb_short i hi
  have hs2 := ev_kb_short j hj
  have hl : (ev_kb.getD i []).length = (ev_kb.getD j []).length := by
    have z := congrArg Int32.toInt (b5.symm.trans b5')
    rw [Int32.toInt_ofNat_of_lt (by omega), Int32.toInt_ofNat_of_lt (by omega)] at z
    omega
  refine ev_kb_ne i hi j hj (ev_list_ext hl fun t h1 => ?_)
  have z1 := b6 t h1
  have z2 := b6' t (by rw [← hl]; exact h1)
  have z3 : (Value.int ((ev_kb.getD i []).getD t 0)) = .int ((ev_kb.getD j []).getD t 0) := Option.some.inj (z1.symm.trans z2)
  exact Value.int.inj z3
section EvStep2
variable {p : Program} {l : Launch} {e : Env} {R : Room} {s : State} {m : MethodId} {args : Array Value} {below : List Frame} {meth : Method} {c : Code} {Q : State → Prop} {D : va_G} {tys : List (ClassId × FieldType)} {A : Nat → Prop} {ex : Nat → Nat} {al0 : List Nat} {nL : Nat} {sc : List ev_V}
variable {pc k n : Nat} {L : List (Nat × ev_V)} {S : List ev_V} {w : List ev_C} {cc : ByteArray} {own nm : String}
theorem ev_isS_ok (hK : va_K D ev_cl tys s) (hX : ev_X ex A s s.heap) {al : List Nat} {ws : va_W} {H : Heap} {locs : List Loc} {x : ev_V} {v : Value} (h2 : ev_w al ex tys w ws) (h3 : va_P D ev_cl ws H) (h5 : va_S A s.heap H locs) (hs : ev_isS ev_jk w x = true) (hr : ev_rel al ex x v) : ∃ a, v = .ref a ∧ ∃ cell : Cell, H[a]? = some cell ∧ cell.vm.isStatics = false ∧ s.vm.findClass "java/lang/String" = some cell.cls := by
  unfold ev_isS at hs
  split at hs
  · rename_i q
    split at hs
    · rename_i cj fs hw
      have e := Nat.eq_of_beq_eq_true hs
      subst e
      obtain ⟨a, g0, rfl⟩ := hr
      obtain ⟨E, g3, vs, rfl, g4⟩ := ev_w_get h2 hw g0
      have hc : ev_cl[19]? = some (ev_R19, ev_T19, 4) := rfl
      obtain ⟨cell, z1, z2, z3⟩ := va_recv hK h3 hc g3
      exact ⟨a, rfl, cell, z1, z2, z3⟩
    · cases hs
  · rename_i j
    have hv : v = .ref (ex j) := hr
    obtain ⟨cell, z1, z2, z3⟩ := va_Orecv (hX.2.2.1 j (ev_blt hs)).1 h5
    exact ⟨_, hv, cell, z1, z2, z3⟩
  · cases hs
theorem ev_al_ws {al : List Nat} {ws : va_W} (h2 : ev_w al ex tys w ws) {i x : Nat} (h : al[i]? = some x) : ∃ E, ws[i]? = some (x, E) := by
  rw [← h2.1, List.getElem?_map] at h
  cases hq : ws[i]? with
  | none => rw [hq] at h; cases h
  | some q =>
    rw [hq] at h
    obtain ⟨q1, q2⟩ := q
    cases h
    exact ⟨q2, rfl⟩
theorem ev_same_ok (hX : ev_X ex A s s.heap) {al : List Nat} {ws : va_W} {a b : ev_V} {t : Bool} {va vb : Value} (h2 : ev_w al ex tys w ws) (h4 : va_D A ws) (hs : ev_same ev_jk a b = some t) (ha : ev_rel al ex a va) (hb : ev_rel al ex b vb) : ∃ x y : Nat, va = .ref x ∧ vb = .ref y ∧ (t = true → x = y) ∧ (t = false → x ≠ y) := by
  unfold ev_same at hs
  split at hs
  · rename_i i j
    cases hs
    obtain ⟨x, g1, rfl⟩ := ha
    obtain ⟨y, g2, rfl⟩ := hb
    refine ⟨x, y, rfl, rfl, fun e => ?_, fun e => ?_⟩
    · have e := Nat.eq_of_beq_eq_true e
      subst e
      exact Option.some.inj (g1.symm.trans g2)
    · intro exy
      subst exy
      obtain ⟨E1, k1⟩ := ev_al_ws h2 g1
      obtain ⟨E2, k2⟩ := ev_al_ws h2 g2
      have hij := h4.1 i j _ _ k1 k2 rfl
      subst hij
      rw [Nat.beq_refl] at e
      cases e
  · rename_i i j
    obtain ⟨hj, rfl⟩ := ev_bif hs
    obtain ⟨x, g1, rfl⟩ := ha
    have hb : vb = .ref (ex j) := hb
    refine ⟨x, ex j, rfl, hb, fun e => (by cases e), fun _ e => ?_⟩
    obtain ⟨E1, k1⟩ := ev_al_ws h2 g1
    have h1 := h4.2 i _ k1
    obtain ⟨cell, -, -, -, hn⟩ := (hX.2.2.1 j (ev_blt hj)).1
    exact hn (by rw [← e]; exact h1)
  · rename_i i j
    obtain ⟨hj, rfl⟩ := ev_bif hs
    obtain ⟨x, g1, rfl⟩ := hb
    have ha : va = .ref (ex i) := ha
    refine ⟨ex i, x, ha, rfl, fun e => (by cases e), fun _ e => ?_⟩
    obtain ⟨E1, k1⟩ := ev_al_ws h2 g1
    have h1 := h4.2 j _ k1
    obtain ⟨cell, -, -, -, hn⟩ := (hX.2.2.1 i (ev_blt hj)).1
    exact hn (by rw [e]; exact h1)
  · rename_i i j
    obtain ⟨hj, rfl⟩ := ev_bif hs
    simp only [Bool.and_eq_true] at hj
    have ha : va = .ref (ex i) := ha
    have hb : vb = .ref (ex j) := hb
    refine ⟨ex i, ex j, ha, hb, fun e => ?_, fun e exy => ?_⟩
    · rw [Nat.eq_of_beq_eq_true e]
    · have hij := ev_ex_inj hX (ev_blt hj.1) (ev_blt hj.2) exy
      subst hij
      rw [Nat.beq_refl] at e
      cases e
  · cases hs
set_option maxHeartbeats 4000000 in
theorem ev_step2_ok (X : ev_Ctx p R s m args meth c D tys A ex cc own nm nL sc) {ins : Instr} {ops : List Nat} {f' : ev_F} (hok : ev_ok own nm cc (pc, ins, ops) = true)
    (hs : ev_step2 ev_jk ins ops (pc, L, S, w, k, n) = some f')
    (h : ev_G p l e R s m args below meth c Q D ev_cl tys A ex al0 nL f') : ev_G p l e R s m args below meth c Q D ev_cl tys A ex al0 nL (pc, L, S, w, k, n) := by
  obtain ⟨hx, hb, hml, hown, hts, hK, hT, hA, hX, hnm, hsc, -⟩ := X
  have h2 := ev_ok_two hok
  unfold ev_step2 at hs
  split at hs
  · -- if_acmp
    rename_i K off
    split at hs
    · rename_i pc1 L1 b a S1 w1 c1 n1 tgt heq
      cases heq
      have ht0 : (pc : Int) + off = (tgt : Int) := of_decide_eq_true h2
      split at hs
      · rename_i q hq
        cases hs
        intro al ws H locs ls lv st h1 h2' h3 h4 h5 h6 h7 h8
        obtain ⟨vb, st1, rfl, g1, g2⟩ := ev_st_cons h8
        obtain ⟨va, st2, rfl, g3, g4⟩ := ev_st_cons g2
        have go := h al ws H locs ls lv st2 h1 h2' h3 h4 h5 h6 h7 g4
        have key : ∀ t, ev_same ev_jk a b = some t → ∃ x y : Nat, va = .ref x ∧ vb = .ref y ∧ (t = true → x = y) ∧ (t = false → x ≠ y) := fun t ht => ev_same_ok hX h2' h4 ht g3 g1
        rcases ev_go_some hq with ⟨ht1, rfl⟩ | ⟨ht1, rfl⟩
        · cases K with
          | eq =>
            obtain ⟨x, y, rfl, rfl, j1, j2⟩ := key _ ht1
            exact lv_acmp_eq (rx := some x) (ry := some y) hx hb (ev_ok_dec hok rfl) ht0 (fun _ => go) (fun z => absurd (congrArg some (j1 rfl)) z)
          | ne =>
            obtain ⟨x, y, rfl, rfl, j1, j2⟩ := key _ (ev_not_some ht1)
            exact lv_acmp_ne (rx := some x) (ry := some y) hx hb (ev_ok_dec hok rfl) ht0 (fun _ => go) (fun z => absurd (Option.some.inj z) (j2 rfl))
        · cases K with
          | eq =>
            obtain ⟨x, y, rfl, rfl, j1, j2⟩ := key _ ht1
            exact lv_acmp_eq (rx := some x) (ry := some y) hx hb (ev_ok_dec hok rfl) ht0 (fun z => absurd (Option.some.inj z) (j2 rfl)) (fun _ => go)
          | ne =>
            obtain ⟨x, y, rfl, rfl, j1, j2⟩ := key _ (ev_not_some ht1)
            exact lv_acmp_ne (rx := some x) (ry := some y) hx hb (ev_ok_dec hok rfl) ht0 (fun z => absurd (congrArg some (j1 rfl)) z) (fun _ => go)
      · cases hs
    · cases hs
  · -- instanceof
    rename_i idx
    split at hs
    · rename_i pc1 L1 a S1 w1 c1 n1 heq
      cases heq
      obtain ⟨hi, rfl⟩ := ev_bif hs
      match ops, h2, hok with
      | [pl], h2, hok =>
        have h2 : ev_hw pl (.classLink own idx "java/lang/String") = true := h2
        intro al ws H locs ls lv st h1 h2' h3 h4 h5 h6 h7 h8
        obtain ⟨va, st1, rfl, g1, g2⟩ := ev_st_cons h8
        obtain ⟨b, rfl, hcell⟩ := ev_isS_ok hK hX h2' h3 h5 hi g1
        exact va_instE hx hb hown (hts _ (ev_hw_mem h2)) hcell (ev_ok_dec hok rfl) (h al ws H locs ls lv (.int 1 :: st1) h1 h2' h3 h4 h5 h6 h7 ⟨rfl, g2⟩)
      | [], h2, hok => cases h2
      | _ :: _ :: _, h2, hok => cases h2
    · cases hs
  · -- checkcast
    rename_i idx
    split at hs
    · rename_i pc1 L1 a S1 w1 c1 n1 pl heq
      cases heq
      obtain ⟨hi, rfl⟩ := ev_bif hs
      have h2 : ev_hw pl (.classLink own idx "java/lang/String") = true := h2
      intro al ws H locs ls lv st h1 h2' h3 h4 h5 h6 h7 h8
      obtain ⟨va, st1, rfl, g1, g2⟩ := ev_st_cons h8
      have g1' := g1
      obtain ⟨b, rfl, hcell⟩ := ev_isS_ok hK hX h2' h3 h5 hi g1
      exact va_castE hx hb hown (hts _ (ev_hw_mem h2)) hcell (ev_ok_dec hok rfl) (h al ws H locs ls lv (.ref b :: st1) h1 h2' h3 h4 h5 h6 h7 ⟨g1', g2⟩)
    · rename_i pc1 L1 q S1 w1 c1 n1 pl pl2 heq
      cases heq
      split at hs
      · rename_i t N d wr hw
        obtain ⟨hi, rfl⟩ := ev_bif hs
        have e1 := Nat.eq_of_beq_eq_true hi
        subst e1
        have h2 : ev_hw pl (.classLink own idx "[B") = true := h2
        intro al ws H locs ls lv st h1 h2' h3 h4 h5 h6 h7 h8
        obtain ⟨va, st1, rfl, ⟨a, g0, rfl⟩, g2⟩ := ev_st_cons h8
        obtain ⟨E, g3, cA, ty, g4, f, rfl, g5⟩ := ev_w_get h2' hw g0
        cases ev_ty hT g4
        exact va_castA hx hb hown (hts _ (ev_hw_mem h2)) h3 q g3 (va_nm_byte (hK.2 1 _ g4).2) (ev_ok_dec hok rfl) (h al ws H locs ls lv (.ref a :: st1) h1 h2' h3 h4 h5 h6 h7 ⟨⟨a, g0, rfl⟩, g2⟩)
      · cases hs
    · cases hs
  · -- baload
    split at hs
    · rename_i pc1 L1 x q S1 w1 c1 n1 heq
      cases heq
      split at hs
      · rename_i u N d wr hw
        cases h9 : Nat.beq 8 u with
        | false => rw [h9] at hs; cases hs
        | true =>
          rw [h9] at hs
          have e := Nat.eq_of_beq_eq_true h9
          subst e
          simp only [cond_true] at hs
          split at hs
          · rename_i i hi
            cases hs
            exact es_ald8 hx hb (ev_ok_dec hok rfl) hK hT hw hi h
          · cases hs
      · cases hs
    · cases hs
  · -- bastore
    split at hs
    · rename_i pc1 L1 v x q S1 w1 c1 n1 heq
      cases heq
      split at hs
      · rename_i u N d wr hw
        cases h9 : (Nat.beq 8 u && ev_bit v) with
        | false => rw [h9] at hs; cases hs
        | true =>
          rw [h9] at hs
          simp only [Bool.and_eq_true] at h9
          have e := Nat.eq_of_beq_eq_true h9.1
          subst e
          simp only [cond_true] at hs
          split at hs
          · rename_i i hi
            cases hs
            exact es_ast8 hx hb (ev_ok_dec hok rfl) hK hT hw hi h9.2 h
          · cases hs
      · cases hs
    · cases hs
  · -- aastore
    split at hs
    · rename_i pc1 L1 qk x q S1 w1 c1 n1 heq
      cases heq
      split at hs
      · rename_i u N d wr cj fs hw hk
        cases h9 : (Nat.beq 3 u && Nat.beq cj 19) with
        | false => rw [h9] at hs; cases hs
        | true =>
          rw [h9] at hs
          simp only [Bool.and_eq_true] at h9
          have e := Nat.eq_of_beq_eq_true h9.1
          subst e
          have e2 := Nat.eq_of_beq_eq_true h9.2
          subst e2
          simp only [cond_true] at hs
          split at hs
          · rename_i i hi
            cases hs
            exact es_aastO hx hb (ev_ok_dec hok rfl) hK hT (by decide) (by decide) hw hi hk rfl rfl h
          · cases hs
      · cases hs
    · cases hs
  · -- getfield
    rename_i idx
    split at hs
    · rename_i pc1 L1 q S1 w1 c1 n1 pl fno heq
      cases heq
      split at hs
      · rename_i cj fs hw
        cases h9 : (Nat.beq cj 19 && Nat.blt fno 2) with
        | false => rw [h9] at hs; cases hs
        | true =>
          rw [h9] at hs
          simp only [cond_true] at hs
          simp only [Bool.and_eq_true] at h9
          have e := Nat.eq_of_beq_eq_true h9.1
          subst e
          have hf2 : fno + 1 ≤ 2 := by simpa [Nat.blt] using h9.2
          split at hs
          · rename_i v hv
            cases hs
            have hc : ev_cl[19]? = some (ev_R19, ev_T19, 4) := rfl
            obtain ⟨d1, d2, d3, d4, -⟩ := ev_cok_all 19 ev_R19 ev_T19 4 hc
            have hcase : fno = 0 ∨ fno = 1 := by omega
            rcases hcase with rfl | rfl
            · have h2 : ev_hw pl (.fieldLink own idx "java/lang/String" "value" "[B") = true := h2
              exact es_get (j := 0) hx hb (ev_ok_dec hok rfl) hts d1 hown hK hc (by decide) (Or.inl (hts _ (ev_hw_mem h2))) hw hv h
            · have h2 : ev_hw pl (.fieldLink own idx "java/lang/String" "coder" "B") = true := h2
              exact es_get (j := 1) hx hb (ev_ok_dec hok rfl) hts d1 hown hK hc (by decide) (Or.inl (hts _ (ev_hw_mem h2))) hw hv h
          · cases hs
      · cases hs
    · cases hs
  · -- putfield
    rename_i idx
    split at hs
    · rename_i pc1 L1 x q S1 w1 c1 n1 kd pl ci j u1 u2 heq
      cases heq
      have h2 : (match ev_cl[ci]? with | some (C, T, N) => Nat.blt j N && decide (ev_Y ci j = .byte) && (ev_gl own idx C T j kd pl && (decide ((T j).2.2.2 = false) || (Nat.beq kd 0 && decide (nm = "<init>") && decide ((T j).1 = own)))) | none => false) = true := h2
      split at hs
      · rename_i cj fs hw
        obtain ⟨h9, rfl⟩ := ev_bif hs
        simp only [Bool.and_eq_true, decide_eq_true_eq] at h9
        have e := Nat.eq_of_beq_eq_true h9.1.1
        subst e
        have hl : j + 1 ≤ fs.length := by simpa [Nat.blt] using h9.2
        split at h2
        · rename_i C T N hC
          simp only [Bool.and_eq_true, decide_eq_true_eq] at h2
          obtain ⟨d1, d2, d3, d4, -⟩ := ev_cok_all ci C T N hC
          have hj : j + 1 ≤ N := by simpa [Nat.blt] using h2.1.1
          have hby := h2.1.2
          refine es_putG hx hb (ev_ok_dec hok rfl) hts d1 (ev_Y ci) d2 d3 hown hK hC hj ?_ (fun al v' hr => ?_) hw hl h
          · have h22 := h2.2
            simp only [Bool.or_eq_true, Bool.and_eq_true, decide_eq_true_eq] at h22
            rcases ev_gl_ok h22.1 with ⟨-, z⟩ | ⟨host, z1, z2, z3⟩
            · refine Or.inl ⟨hts _ z, ?_⟩
              rcases h22.2 with y | y
              · exact Or.inl y
              · cases hq : (T j).2.2.2 with
                | false => exact Or.inl rfl
                | true => exact Or.inr ⟨rfl, hnm.trans y.1.2, y.2⟩
            · refine Or.inr ⟨host, va_Nw.use rfl (hX.1 _ z1 z2), ?_⟩
              rcases h22.2 with y | y
              · exact y
              · exact absurd (Nat.eq_of_beq_eq_true y.1.1) z3
          · have hr : v' = .int x := hr
            subst hr
            rw [hby]
            exact h9.1.2
        · cases h2
      · cases hs
    · cases hs
  · cases hs
theorem ev_stepA_ok (X : ev_Ctx p R s m args meth c D tys A ex cc own nm nL sc) {ins : Instr} {ops : List Nat} {f' : ev_F} (hok : ev_ok own nm cc (pc, ins, ops) = true)
    (hs : ev_stepA ev_fds ev_jk ev_kb sc nL ins ops (pc, L, S, w, k, n) = some f') (hkc : f'.2.2.2.2.1 ≤ R.cells) (hkn : f'.2.2.2.2.2 ≤ R.slots)
    (h : ev_G p l e R s m args below meth c Q D ev_cl tys A ex al0 nL f') : ev_G p l e R s m args below meth c Q D ev_cl tys A ex al0 nL (pc, L, S, w, k, n) := by
  rcases ev_stepA_cases hs with hs | hs
  · exact ev_step_ok X hok hs hkc hkn h
  · exact ev_step2_ok X hok hs h
end EvStep2
