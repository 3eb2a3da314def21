/-! One instruction, calls and ends among them, holds of the machine -/
theorem ev_oi1 : Cond.instanceMethod Lib.objectInit ∈ ev_Ts := ev_hw_mem (pl := 1047) (by decide +kernel)
theorem ev_oi2 : Cond.code Lib.objectInit ⟨#[0xb1]⟩ 1 none ∈ ev_Ts := ev_hw_mem (pl := 1048) (by decide +kernel)
theorem ev_ac1 : Cond.native arraycopyName ∈ ev_Ts := ev_hw_mem (pl := 2164) (by decide +kernel)
theorem ev_ac2 : Cond.static arraycopyName ∈ ev_Ts := ev_hw_mem (pl := 2163) (by decide +kernel)
theorem ev_ac3 : Cond.initialized "java/lang/System" ∈ ev_Ts := ev_hw_mem (pl := 1016) (by decide +kernel)
theorem ev_cl1 : Cond.sameMethod "[B" "java/lang/Object" "clone" "()Ljava/lang/Object;" ∈ ev_Ts := ev_hw_mem (pl := 5038) (by decide +kernel)
theorem ev_cl2 : Cond.native ⟨"java/lang/Object", "clone", "()Ljava/lang/Object;"⟩ ∈ ev_Ts := ev_hw_mem (pl := 2154) (by decide +kernel)
theorem ev_cl3 : Cond.instanceMethod ⟨"java/lang/Object", "clone", "()Ljava/lang/Object;"⟩ ∈ ev_Ts := ev_hw_mem (pl := 2155) (by decide +kernel)
theorem ev_cl4 : Cond.selects "[B" ⟨"[B", "clone", "()Ljava/lang/Object;"⟩ ⟨"java/lang/Object", "clone", "()Ljava/lang/Object;"⟩ ∈ ev_Ts := ev_hw_mem (pl := 5039) (by decide +kernel)
theorem ev_cl5 : Cond.castable "[B" "java/lang/Cloneable" ∈ lw_tbl := (ev_nw_mem (pl := 5040) (by decide +kernel)).1
/-- a callee, d calls deep -/
def ev_Cok (l : Launch) (D : va_G) (tys : List (ClassId × FieldType)) (ex : Nat → Nat) (d mj : Nat) (as : List ev_V) (w : List ev_C) (res : ev_R) : Prop :=
  match res with
  | (.inl rv, w1, c1, n1) => ∀ N, ev_inf mj = some N → 0 < mj → ev_Met l D tys ex N d as w rv w1 c1 n1
  | (.inr x, w1, c1, n1) => x < 4 ∧ ∀ N, ev_inf mj = some N → 0 < mj → N.2.2.2.2.1 = [] ∧ ev_MetT l D tys ex N d as w x w1 c1 n1
/-- what a callee's name and words are -/
def ev_nok (N : ev_N) : Prop := ev_head N ∈ ev_Ts ∧ N.2.2.1 ≤ 16
/-- what holds at the end of a method that throws -/
def ev_HQ (below : List Frame) (s : State) (Q : State → Prop) (D : va_G) (tys : List (ClassId × FieldType)) (A : Nat → Prop) (ex : Nat → Nat) (al0 : List Nat) (x : Nat) (w : List ev_C) (k n : Nat) : Prop :=
  ∀ (al : List Nat) (ws : va_W) (H : Heap) (locs : List Loc) (ax : Addr) (t : State), al0 <+: al → ev_w al ex tys w ws → va_P D ev_cl ws H → va_D A ws → va_S A s.heap H locs → ev_exc x ax s H → t.heap = H → t.status = .running → Ended t below (.threw ax) → s.WarmedH t.vm → s.sameButNew ({ t with vm := s.vm } : State) locs k n → Q t
theorem ev_rows_nil {own : String} {tbl : List ExceptionTableEntry} (h : ev_rows own tbl []) : tbl = [] := by
  cases tbl with
  | nil => rfl
  | cons a t => exact h.elim
/-- where a method ends with a value -/
def ev_end1 (cc : ByteArray) (pc : Nat) (v : ev_V) : Prop := (decode cc pc = .ok (.ireturn, 1) ∧ ev_isI v = true) ∨ (decode cc pc = .ok (.lreturn, 1) ∧ ev_isL v = true) ∨ (decode cc pc = .ok (.areturn, 1) ∧ ev_isR v = true)
section EvBody
variable {p : Program} {l : Launch} {e : Env} {R : Room} {s : State} {m : MethodId} {args : Array Value} {below : List Frame} {meth : Method} {c : Code} {Q : State → Prop} {D : va_G} {tys : List (ClassId × FieldType)} {A : Nat → Prop} {ex : Nat → Nat} {al0 : List Nat} {nL : Nat} {sc : List ev_V}
variable {cc : ByteArray} {own nm : String} {hh : List (Nat × Nat × Nat × Nat)} {code : List ev_I} {d : Nat} {run : Nat → List ev_V → List ev_C → Option ev_R}
/-- the receiver of a virtual call -/
theorem ev_recv_ok (X : ev_Ctx p R s m args meth c D tys A ex cc own nm nL sc) {w : List ev_C} {ci : Nat} {o : ev_V} {C : String} (h : ev_body.ev_recv ev_jk w ci o = true) (hC : ev_rc ci = some C) :
    ∀ (al : List Nat) (ws : va_W) (H : Heap) (locs : List Loc) (v : Value), ev_w al ex tys w ws → va_P D ev_cl ws H → va_S A s.heap H locs → ev_rel al ex o v → ∃ b, v = .ref b ∧ ∃ cellB : Cell, H[b]? = some cellB ∧ cellB.vm.isStatics = false ∧ s.vm.findClass C = some cellB.cls := by
  intro al ws H locs v h2 h3 h5 hr
  obtain ⟨hx, hb, hml, hown, hts, hK, hTy, hA, hX, -⟩ := X
  unfold ev_body.ev_recv at h
  split at h
  · rename_i q
    split at h
    · rename_i cj fs hw
      simp only [Bool.or_eq_true, Bool.and_eq_true] at h
      obtain ⟨a, g0, rfl⟩ := hr
      obtain ⟨E, g3, vs, rfl, g4⟩ := ev_w_get h2 hw g0
      obtain ⟨r, hr1, -⟩ := h3 q _ g3
      rcases h with h | ⟨h, h'⟩
      · have e1 := Nat.eq_of_beq_eq_true h
        subst e1
        have hne : Nat.beq ci 999 = false := by
          cases hq : Nat.beq ci 999 with
          | false => rfl
          | true =>
            have e2 := Nat.eq_of_beq_eq_true hq
            subst e2
            have hr1 : ev_cl[999]? = some r := hr1
            have : ev_cl[999]? = none := by decide +kernel
            rw [this] at hr1
            cases hr1
        have hr1 : ev_cl[ci]? = some r := hr1
        unfold ev_rc at hC
        rw [hne, cond_false, hr1] at hC
        cases hC
        obtain ⟨cell, z1, z2, z3⟩ := va_recv hK h3 hr1 g3
        exact ⟨a, rfl, cell, z1, z2, z3⟩
      · have e1 := Nat.eq_of_beq_eq_true h
        subst e1
        have e2 := Nat.eq_of_beq_eq_true h'
        subst e2
        have hC : some "java/lang/String" = some C := hC
        cases hC
        have hc : ev_cl[19]? = some (ev_R19, ev_T19, 4) := rfl
        obtain ⟨cell, z1, z2, z3⟩ := va_recv hK h3 hc g3
        exact ⟨a, rfl, cell, z1, z2, z3⟩
    · cases h
  · rename_i j
    simp only [Bool.and_eq_true] at h
    have e1 := Nat.eq_of_beq_eq_true h.1
    subst e1
    have hC : some "java/lang/String" = some C := hC
    cases hC
    have hv : v = .ref (ex j) := hr
    obtain ⟨cell, z1, z2, z3⟩ := va_Orecv (hX.2.2.1 j (ev_blt h.2)).1 h5
    exact ⟨_, hv, cell, z1, z2, z3⟩
  · cases h
set_option maxHeartbeats 4000000 in
theorem ev_body_ok {α : Type} {fin : ev_R → Option α} {go : ev_F → Option α} {f : ev_F} {r : α} {M1 M2 : Nat} (X : ev_Ctx p R s m args meth c D tys A ex cc own nm nL sc) (hok : code.all (ev_ok own nm cc) = true) (hokc : code.all (ev_okc own) = true) (hrows : ev_rows own c.exceptionTable.toList hh) (hlocks : meth.locks = false) (htr : e.platform.stackTraces = false)
    (hfr : d + 11 ≤ R.frames) (hlo : 35 * d + 235 ≤ R.locals) (hinf : ∀ mj N, ev_inf mj = some N → 0 < mj → ev_nok N) (hat : ∀ q ∈ ev_atl, ev_atoms q.1 q.2.1 q.2.2 ∧ Cond.castable (ev_xn q.2.2) (ev_xn q.2.2) ∈ lw_tbl) (hrun : ∀ mj as w res, run mj as w = some res → ev_Cok l D tys ex d mj as w res)
    (hM1 : M1 ≤ R.cells) (hM2 : M2 ≤ R.slots) (hgoM : ∀ f', go f' = some r → f'.2.2.2.2.1 ≤ M1 ∧ f'.2.2.2.2.2 ≤ M2) (hfinM : ∀ res, fin res = some r → res.2.2.1 ≤ M1 ∧ res.2.2.2 ≤ M2)
    (hgo : ∀ f', go f' = some r → ev_G p l e R s m args below meth c Q D ev_cl tys A ex al0 nL f')
    (hret : ∀ (pc : Nat) (L : List (Nat × ev_V)) (v : ev_V) (w : List ev_C) (k n : Nat), ev_end1 cc pc v → fin (.inl (some v), w, k, n) = some r → ev_G p l e R s m args below meth c Q D ev_cl tys A ex al0 nL (pc, L, [v], w, k, n))
    (hretv : ∀ (pc : Nat) (L : List (Nat × ev_V)) (w : List ev_C) (k n : Nat), decode cc pc = .ok (.return_, 1) → fin (.inl none, w, k, n) = some r → ev_G p l e R s m args below meth c Q D ev_cl tys A ex al0 nL (pc, L, [], w, k, n))
    (hthr : ∀ (x : Nat) (w : List ev_C) (k n : Nat), fin (.inr x, w, k, n) = some r → ev_HQ below s Q D tys A ex al0 x w k n)
    (h : ev_body fin run ev_fds ev_jk ev_kb sc nL hh code go f = some r) : ev_G p l e R s m args below meth c Q D ev_cl tys A ex al0 nL f := by
  obtain ⟨pc, L, S, w, k, n⟩ := f
  unfold ev_body at h
  split at h
  · cases h
  · rename_i ins ops hfind
    have hmem := ev_find_mem hfind
    have hok1 := List.all_eq_true.mp hok _ hmem
    have hokc1 := List.all_eq_true.mp hokc _ hmem
    dsimp only at hfind hok1 hokc1
    have hl200 : 200 ≤ R.locals := by omega
    have hf1 : 1 ≤ R.frames := by omega
    split at h
    · -- ireturn
      split at h
      · rename_i heq
        cases heq
        simp only [Bool.cond_eq_ite] at h
        split at h
        · rename_i hi
          exact hret _ _ _ _ _ _ (Or.inl ⟨ev_ok_dec hok1 rfl, hi⟩) h
        · cases h
      · cases h
    · split at h
      · rename_i heq
        cases heq
        exact hretv _ _ _ _ _ (ev_ok_dec hok1 rfl) h
      · cases h
    · -- lreturn
      split at h
      · rename_i heq
        cases heq
        simp only [Bool.cond_eq_ite] at h
        split at h
        · rename_i hi
          exact hret _ _ _ _ _ _ (Or.inr (Or.inl ⟨ev_ok_dec hok1 rfl, hi⟩)) h
        · cases h
      · cases h
    · -- areturn
      split at h
      · rename_i heq
        cases heq
        simp only [Bool.cond_eq_ite] at h
        split at h
        · rename_i hi
          exact hret _ _ _ _ _ _ (Or.inr (Or.inr ⟨ev_ok_dec hok1 rfl, hi⟩)) h
        · cases h
      · cases h
    · cases h
    · -- invokespecial
      rename_i idx
      split at h
      · rename_i pl
        split at h
        · rename_i heq
          cases heq
          simp only [Bool.cond_eq_ite] at h
          split at h
          · rename_i hl
            exact es_init X (ev_ok_dec hok1 rfl) (ev_hw_mem hokc1) ev_oi1 ev_oi2 (Nat.le_of_ble_eq_true hl) hf1 hl200 (hgo _ h)
          · cases h
        · cases h
      · rename_i kd mj na rest
        dsimp only at h
        split at h
        · rename_i as q S1 hargs
          have hS := ev_args_split hargs
          simp only [Bool.cond_eq_ite] at h
          split at h
          · rename_i hcond
            simp only [Bool.and_eq_true] at hcond
            have e1 := Nat.eq_of_beq_eq_true hcond.1
            have e2 := Nat.le_of_ble_eq_true hcond.2
            split at h
            · rename_i rv w1 c1 n1 hr1
              have hC := hrun _ _ _ _ hr1
              have hcnt := hgoM _ h
              dsimp only at hcnt
              match rest, hokc1 with
              | [p1, p2, p3], hokc1 =>
                have hokc1 : (match ev_inf mj with | some N => (bif Nat.beq kd 0 then ev_hw p1 (.methodLink own idx N.1) else ev_nw p1 (.methodLinkNest own idx N.1 "PathProverModel")) && ev_hw p2 (.instanceMethod N.1) && ev_hw p3 (.initialized N.1.cls) && decide (N.1.name = "<init>") && decide (N.2.2.2.1 = none) && N.2.2.2.2.1.isEmpty && ev_npB N.1 na && Nat.blt 0 mj | none => false) = true := hokc1
                split at hokc1
                · rename_i N hN
                  simp only [Bool.and_eq_true, decide_eq_true_eq] at hokc1
                  obtain ⟨⟨⟨⟨⟨⟨⟨b1, b2⟩, b3⟩, b4⟩, b5⟩, b6⟩, b7⟩, b8⟩ := hokc1
                  have hmj : 1 ≤ mj := by simpa [Nat.blt] using b8
                  have hno := hinf mj N hN hmj
                  have hhe : N.2.2.2.2.1 = [] := List.isEmpty_iff.mp b6
                  have hnp := ev_npB_ok b7
                  rw [← e1] at hnp
                  subst hS
                  cases hk : Nat.beq kd 0 with
                  | true =>
                    rw [hk] at b1
                    exact es_callI X (hC N hN hmj) (ev_ok_dec hok1 rfl) hhe b5 hno.1 (ev_hw_mem b1) (ev_hw_mem b2) (ev_hw_mem b3) b4 hnp hfr (by have := hno.2; omega) (by omega) (by omega) e2 (hgo _ h)
                  | false =>
                    rw [hk] at b1
                    have z := ev_nw_mem b1
                    exact es_callIN X (hC N hN hmj) (ev_ok_dec hok1 rfl) hhe b5 hno.1 (X.2.2.2.2.2.2.2.2.1.1 _ z.1 z.2) (ev_hw_mem b2) (ev_hw_mem b3) b4 hnp hfr (by have := hno.2; omega) (by omega) (by omega) e2 (hgo _ h)
                · cases hokc1
              | [p1, p2, p3, p4, p5], hokc1 =>
                have hokc1 : (match ev_inf mj with | some N => ev_hw p1 (.methodLink own idx N.1) && ev_hw p2 (.instanceMethod N.1) && ev_hw p3 (.initialized N.1.cls) && ev_hw p4 (.sameMethod N.1.cls N.1.cls N.1.name N.1.desc) && ev_hw p5 (.superclass own N.1.cls) && decide (N.1.name ≠ "<init>") && N.2.2.2.2.1.isEmpty && ev_npB N.1 na && Nat.blt 0 mj | none => false) = true := hokc1
                split at hokc1
                · rename_i N hN
                  simp only [Bool.and_eq_true, decide_eq_true_eq] at hokc1
                  obtain ⟨⟨⟨⟨⟨⟨⟨⟨b1, b2⟩, b3⟩, b4⟩, b5⟩, b6⟩, b7⟩, b8⟩, b9⟩ := hokc1
                  have hmj : 1 ≤ mj := by simpa [Nat.blt] using b9
                  have hno := hinf mj N hN hmj
                  have hnp := ev_npB_ok b8
                  rw [← e1] at hnp
                  subst hS
                  exact es_callSU X (hC N hN hmj) (ev_ok_dec hok1 rfl) (List.isEmpty_iff.mp b7) hno.1 (ev_hw_mem b1) (ev_hw_mem b2) (ev_hw_mem b3) (ev_hw_mem b4) (ev_hw_mem b5) b6 hnp hfr (by have := hno.2; omega) (by omega) (by omega) e2 (hgo _ h)
                · cases hokc1
              | [], hokc1 => cases hokc1
              | [_], hokc1 => cases hokc1
              | [_, _], hokc1 => cases hokc1
              | [_, _, _, _], hokc1 => cases hokc1
              | _ :: _ :: _ :: _ :: _ :: _ :: _, hokc1 => cases hokc1
            · cases h
          · cases h
        · cases h
      · cases h
    · -- invokestatic
      rename_i idx
      split at h
      · rename_i pl
        split at h
        · rename_i f1 hf1'
          have hcnt := hgoM _ h
          exact es_acopy X (ev_ok_dec hok1 rfl) (ev_hw_mem hokc1) ev_ac1 ev_ac2 ev_ac3 hf1 hl200 hf1' (hgo _ h)
        · cases h
      · rename_i mj na rest
        dsimp only at h
        simp only [Bool.cond_eq_ite] at h
        split at h
        · rename_i hcond
          simp only [Bool.and_eq_true] at hcond
          have e1 := Nat.eq_of_beq_eq_true hcond.1
          have e2 := Nat.le_of_ble_eq_true hcond.2
          have hS := ev_args_split (na := na) (S := S) (as := (ev_args na S).1) (T := (ev_args na S).2) rfl
          split at h
          · rename_i rv w1 c1 n1 hr1
            have hC := hrun _ _ _ _ hr1
            have hcnt := hgoM _ h
            dsimp only at hcnt
            match rest, hokc1 with
            | [p1, p2, p3], hokc1 =>
              have hokc1 : (match ev_inf mj with | some N => ev_hw p1 (.methodLink own idx N.1) && ev_hw p2 (.static N.1) && ev_hw p3 (.initialized N.1.cls) && ev_npB N.1 na && Nat.blt 0 mj | none => false) = true := hokc1
              split at hokc1
              · rename_i N hN
                simp only [Bool.and_eq_true] at hokc1
                obtain ⟨⟨⟨⟨b1, b2⟩, b3⟩, b7⟩, b8⟩ := hokc1
                have hmj : 1 ≤ mj := by simpa [Nat.blt] using b8
                have hno := hinf mj N hN hmj
                have hnp := ev_npB_ok b7
                rw [← e1] at hnp
                rw [hS]
                exact es_callS X (hC N hN hmj) (ev_ok_dec hok1 rfl) hno.1 (ev_hw_mem b1) (ev_hw_mem b2) (ev_hw_mem b3) hnp hfr (by have := hno.2; omega) (by omega) (by omega) e2 (hgo _ h)
              · cases hokc1
            | [p1, p2, p3, p4], hokc1 =>
              have hokc1 : (match ev_inf mj with | some N => ev_nw p1 (.methodLinkNest own idx N.1 "PathProver") && ev_hw p2 (.static N.1) && ev_hw p3 (.initialized N.1.cls) && N.2.2.2.2.1.isEmpty && ev_npB N.1 na && Nat.blt 0 mj | none => false) = true := hokc1
              split at hokc1
              · rename_i N hN
                simp only [Bool.and_eq_true] at hokc1
                obtain ⟨⟨⟨⟨⟨b1, b2⟩, b3⟩, b6⟩, b7⟩, b8⟩ := hokc1
                have hmj : 1 ≤ mj := by simpa [Nat.blt] using b8
                have hno := hinf mj N hN hmj
                have hnp := ev_npB_ok b7
                rw [← e1] at hnp
                rw [hS]
                have z := ev_nw_mem b1
                exact es_callSN X (hC N hN hmj) (ev_ok_dec hok1 rfl) (List.isEmpty_iff.mp b6) hno.1 (X.2.2.2.2.2.2.2.2.1.1 _ z.1 z.2) (ev_hw_mem b2) (ev_hw_mem b3) hnp hfr (by have := hno.2; omega) (by omega) (by omega) e2 (hgo _ h)
              · cases hokc1
            | [], hokc1 => cases hokc1
            | [_], hokc1 => cases hokc1
            | [_, _], hokc1 => cases hokc1
            | _ :: _ :: _ :: _ :: _ :: _, hokc1 => cases hokc1
          · cases h
        · cases h
      · cases h
    · -- invokevirtual
      rename_i idx
      split at h
      · rename_i pl
        split at h
        · rename_i f1 hf1'
          have hcnt := hgoM _ h
          have hokc1 : ev_hw pl (.methodLink own idx ⟨"[B", "clone", "()Ljava/lang/Object;"⟩) = true := hokc1
          exact es_clone X (ev_ok_dec hok1 rfl) (ev_hw_mem hokc1) ev_cl1 ev_cl2 ev_cl3 ev_cl4 ev_cl5 hf1 hl200 hf1' (by omega) (by omega) (hgo _ h)
        · cases h
      · rename_i mj na ci rest
        dsimp only at h
        split at h
        · rename_i as o S1 hargs
          have hS := ev_args_split hargs
          simp only [Bool.cond_eq_ite] at h
          split at h
          · rename_i hcond
            simp only [Bool.and_eq_true] at hcond
            have e1 := Nat.eq_of_beq_eq_true hcond.1.1
            have e2 := Nat.le_of_ble_eq_true hcond.1.2
            have hrc := hcond.2
            match rest, hokc1 with
            | [p1, p2, p3, p4], hokc1 =>
              have hokc1 : (match ev_inf mj, ev_rc ci with | some N, some C => ev_hw p1 (.methodLink own idx N.1) && ev_hw p2 (.instanceMethod N.1) && ev_hw p3 (.selects C N.1 N.1) && ev_hw p4 (.initialized N.1.cls) && ev_npB N.1 na && Nat.blt 0 mj | _, _ => false) = true := hokc1
              split at hokc1
              · rename_i N C hN hCn
                simp only [Bool.and_eq_true] at hokc1
                obtain ⟨⟨⟨⟨⟨b1, b2⟩, b3⟩, b4⟩, b7⟩, b8⟩ := hokc1
                have hmj : 1 ≤ mj := by simpa [Nat.blt] using b8
                have hno := hinf mj N hN hmj
                have hnp := ev_npB_ok b7
                rw [← e1] at hnp
                subst hS
                have hsl : ev_sel C N.1 N.1 s := ev_sel_self (X.2.2.2.2.1 _ hno.1) (X.2.2.2.2.1 _ (ev_hw_mem b2)) (X.2.2.2.2.1 _ (ev_hw_mem b3)) ⟨hnp.1, hnp.2.1⟩
                have hrv := ev_recv_ok X hrc hCn
                split at h
                · rename_i rv w1 c1 n1 hr1
                  have hC := hrun _ _ _ _ hr1
                  have hcnt := hgoM _ h
                  dsimp only at hcnt
                  exact es_callV X (hC N hN hmj) (ev_ok_dec hok1 rfl) hno.1 (ev_hw_mem b1) hsl (ev_hw_mem b4) hnp hrv hfr (by have := hno.2; omega) (by omega) (by omega) e2 (hgo _ h)
                · rename_i x w1 c1 n1 hr1
                  obtain ⟨hx4, hC⟩ := hrun _ _ _ _ hr1
                  split at h
                  · rename_i t ht
                    have hcnt := hgoM _ h
                    dsimp only at hcnt
                    exact es_callVT X (hC N hN hmj).2 (ev_ok_dec hok1 rfl) (hC N hN hmj).1 hno.1 (ev_hw_mem b1) hsl (ev_hw_mem b4) hnp hrv hfr (by have := hno.2; omega) (by omega) (by omega) e2 (es_caught X hrows hx4 ht (hgo _ h))
                  · split at h
                    · have hcnt := hfinM _ h
                      dsimp only at hcnt
                      exact es_callVT X (hC N hN hmj).2 (ev_ok_dec hok1 rfl) (hC N hN hmj).1 hno.1 (ev_hw_mem b1) hsl (ev_hw_mem b4) hnp hrv hfr (by have := hno.2; omega) (by omega) (by omega) e2 (es_leave hlocks (ev_rows_nil hrows) (hthr _ _ _ _ h))
                    · cases h
                · cases h
              · cases hokc1
            | [p1, p2, p3, p4, m1, p5, p6], hokc1 =>
              have hokc1 : (match ev_inf mj, ev_rc ci, ev_inf m1 with | some N, some C, some N1 => ev_hw p1 (.methodLink own idx N1.1) && ev_hw p2 (.instanceMethod N.1) && (ev_hw p3 (.selects C N1.1 N.1) || (Nat.beq mj m1 && ev_pv p3 (.privateMethod N.1))) && ev_hw p4 (.initialized N.1.cls) && ev_hw p5 (.sameMethod N1.1.cls N1.1.cls N1.1.name N1.1.desc) && ev_hw p6 (.instanceMethod N1.1) && ev_npB N1.1 na && Nat.blt 0 mj && Nat.blt 0 m1 | _, _, _ => false) = true := hokc1
              split at hokc1
              · rename_i N C N1 hN hCn hN1
                simp only [Bool.and_eq_true] at hokc1
                obtain ⟨⟨⟨⟨⟨⟨⟨⟨b1, b2⟩, b3⟩, b4⟩, b5⟩, b6⟩, b7⟩, b8⟩, b9⟩ := hokc1
                have hmj : 1 ≤ mj := by simpa [Nat.blt] using b8
                have hm1 : 1 ≤ m1 := by simpa [Nat.blt] using b9
                have hno := hinf mj N hN hmj
                have hno1 := hinf m1 N1 hN1 hm1
                have hnp := ev_npB_ok b7
                rw [← e1] at hnp
                subst hS
                have hsl : ev_sel C N1.1 N.1 s := by
                  simp only [Bool.or_eq_true, Bool.and_eq_true] at b3
                  rcases b3 with b3 | ⟨b30, b3⟩
                  · exact ev_sel_over (X.2.2.2.2.1 _ hno1.1) (X.2.2.2.2.1 _ (ev_hw_mem b6)) (X.2.2.2.2.1 _ (ev_hw_mem b2)) (X.2.2.2.2.1 _ (ev_hw_mem b5)) (X.2.2.2.2.1 _ (ev_hw_mem b3)) ⟨hnp.1, hnp.2.1⟩
                  · have em := Nat.eq_of_beq_eq_true b30
                    subst em
                    cases hN.symm.trans hN1
                    exact ev_sel_priv (X.2.2.2.2.1 _ hno.1) (X.2.2.2.2.1 _ (ev_hw_mem b2)) (X.2.2.2.2.1 _ (ev_hw_mem b5)) (va_Nw.use rfl (X.2.2.2.2.2.2.2.2.1.priv (ev_pv_mem b3).1 (ev_pv_mem b3).2))
                have hrv := ev_recv_ok X hrc hCn
                split at h
                · rename_i rv w1 c1 n1 hr1
                  have hC := hrun _ _ _ _ hr1
                  have hcnt := hgoM _ h
                  dsimp only at hcnt
                  exact es_callV X (hC N hN hmj) (ev_ok_dec hok1 rfl) hno.1 (ev_hw_mem b1) hsl (ev_hw_mem b4) hnp hrv hfr (by have := hno.2; omega) (by omega) (by omega) e2 (hgo _ h)
                · rename_i x w1 c1 n1 hr1
                  obtain ⟨hx4, hC⟩ := hrun _ _ _ _ hr1
                  split at h
                  · rename_i t ht
                    have hcnt := hgoM _ h
                    dsimp only at hcnt
                    exact es_callVT X (hC N hN hmj).2 (ev_ok_dec hok1 rfl) (hC N hN hmj).1 hno.1 (ev_hw_mem b1) hsl (ev_hw_mem b4) hnp hrv hfr (by have := hno.2; omega) (by omega) (by omega) e2 (es_caught X hrows hx4 ht (hgo _ h))
                  · split at h
                    · have hcnt := hfinM _ h
                      dsimp only at hcnt
                      exact es_callVT X (hC N hN hmj).2 (ev_ok_dec hok1 rfl) (hC N hN hmj).1 hno.1 (ev_hw_mem b1) hsl (ev_hw_mem b4) hnp hrv hfr (by have := hno.2; omega) (by omega) (by omega) e2 (es_leave hlocks (ev_rows_nil hrows) (hthr _ _ _ _ h))
                    · cases h
                · cases h
              · cases hokc1
            | [], hokc1 => cases hokc1
            | [_], hokc1 => cases hokc1
            | [_, _], hokc1 => cases hokc1
            | [_, _, _], hokc1 => cases hokc1
            | [_, _, _, _, _], hokc1 => cases hokc1
            | [_, _, _, _, _, _], hokc1 => cases hokc1
            | _ :: _ :: _ :: _ :: _ :: _ :: _ :: _ :: _, hokc1 => cases hokc1
          · cases h
        · cases h
      · cases h
    · -- new
      rename_i idx
      split at h
      · rename_i pl1 pl2 pl3 u x
        dsimp only at h
        split at h
        · rename_i o1 ic pl4 y o3 hf3 hf4 hf7
          simp only [Bool.cond_eq_ite] at h
          split at h
          · rename_i hcond
            simp only [Bool.and_eq_true] at hcond
            have e1 := Nat.le_of_ble_eq_true hcond.1.1
            have hhe : hh = [] := List.isEmpty_iff.mp hcond.1.2
            have e3 := Nat.eq_of_beq_eq_true hcond.2
            subst e3
            subst hhe
            have hcnt := hfinM _ h
            dsimp only at hcnt
            have hm3 := List.all_eq_true.mp hok _ (ev_find_mem hf3)
            have hm4 := List.all_eq_true.mp hok _ (ev_find_mem hf4)
            have hm7 := List.all_eq_true.mp hok _ (ev_find_mem hf7)
            have hc4 := List.all_eq_true.mp hokc _ (ev_find_mem hf4)
            have hokc1 : (ev_hw pl1 (.classLink own idx (ev_xn x)) && ev_hw pl2 (.instantiable (ev_xn x) 6) && ev_hw pl3 (.initialized (ev_xn x)) && Nat.blt x 4) = true := hokc1
            simp only [Bool.and_eq_true] at hokc1
            have hc4 : ev_atl.any (fun q => decide (q.1 = own) && Nat.beq q.2.1 ic && Nat.beq q.2.2 x) = true := hc4
            obtain ⟨q, hq1, hq2⟩ := List.any_eq_true.mp hc4
            simp only [Bool.and_eq_true, decide_eq_true_eq] at hq2
            obtain ⟨q1, q2, q3⟩ := q
            obtain ⟨⟨rfl, z2⟩, z3⟩ := hq2
            have z2 := Nat.eq_of_beq_eq_true z2
            have z3 := Nat.eq_of_beq_eq_true z3
            dsimp only at z2 z3
            subst z2
            subst z3
            have ha := hat _ hq1
            exact es_throw X htr hlocks (ev_rows_nil hrows) (ev_ok_dec hok1 rfl) (ev_ok_dec hm3 rfl) (ev_ok_dec hm4 rfl) (ev_ok_dec hm7 rfl) (ev_hw_mem hokc1.1.1.1) (ev_hw_mem hokc1.1.1.2) (ev_hw_mem hokc1.1.2) ha.1 ha.2 (by omega) hl200 (by omega) (by omega) e1 (hthr _ _ _ _ h)
          · cases h
        · cases h
      · split at h
        · rename_i f1 hf1'
          have hcnt := hgoM _ h
          exact ev_stepA_ok X hok1 hf1' (by omega) (by omega) (hgo _ h)
        · cases h
    · split at h
      · rename_i f1 hf1'
        have hcnt := hgoM _ h
        exact ev_stepA_ok X hok1 hf1' (by omega) (by omega) (hgo _ h)
      · cases h
end EvBody
