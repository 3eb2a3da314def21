/-! The evaluator's run of a method is its contract, at every depth -/
set_option maxHeartbeats 4000000 in
theorem ev_body_P {α : Type} {fin : ev_R → Option α} {run : Nat → List ev_V → List ev_C → Option ev_R} {fds : List (List ev_V)} {jk : Nat} {kb : List (List Int32)} {sc : List ev_V} {nL : Nat} {hh : List (Nat × Nat × Nat × Nat)} {code : List ev_I} {go : ev_F → Option α} {f : ev_F} {r : α} {P : Prop}
    (hgo : ∀ f', go f' = some r → P) (hfin : ∀ res, fin res = some r → P) (h : ev_body fin run fds jk kb sc nL hh code go f = some r) : P := by
  obtain ⟨pc, L, S, w, c, n⟩ := f
  unfold ev_body at h
  simp only [Bool.cond_eq_ite] at h
  repeat' split at h
  all_goals first | (cases h; done) | exact hgo _ h | exact hfin _ h
theorem ev_loop_rok {ret : Option FieldType} {run : Nat → List ev_V → List ev_C → Option ev_R} {fds : List (List ev_V)} {jk : Nat} {kb : List (List Int32)} {sc : List ev_V} {nL : Nat} {hh : List (Nat × Nat × Nat × Nat)} {code : List ev_I} {r : ev_R} : ∀ (fuel : Nat) (f : ev_F), ev_loop ret run fds jk kb sc nL hh code fuel f = some r → ev_rok ret hh r = true
  | 0, f, h => by cases h
  | fuel + 1, f, h => by
    have h : ev_body (fun r => bif ev_rok ret hh r then some r else none) run fds jk kb sc nL hh code (ev_loop ret run fds jk kb sc nL hh code fuel) f = some r := h
    refine ev_body_P (fun f' hf' => ev_loop_rok fuel f' hf') (fun res hres => ?_) h
    obtain ⟨z, rfl⟩ := ev_bif hres
    exact z
section EvRunOk
variable {l : Launch} {D : va_G} {tys : List (ClassId × FieldType)} {ex : Nat → Nat}
theorem ev_his {N : ev_N} {rm : Room} (args : Array Value) (s : State) (m : MethodId) (h : (headSpec (ev_ws N) rm).pre.before args s = true) (hn : s.methodNamed? N.1 = some m) : ∃ meth c, s.vm.method? m = some meth ∧ meth.code = some c ∧ c.code = N.2.1 ∧ c.maxLocals = N.2.2.1 ∧ meth.sig.returnType = N.2.2.2.1 ∧ meth.locks = false := by
  have z := atoms_spec (ws := ev_ws N) h _ List.mem_cons_self
  obtain ⟨y, b, ml, rt, hh, pl⟩ := N
  cases hh with
  | nil =>
    obtain ⟨meth, c, h1, h2, h3, h4, h5, h6, -, -⟩ := Cond.code_spec (x := y) hn z
    exact ⟨meth, c, h1, h2, h3, h4, h5, h6⟩
  | cons a t =>
    obtain ⟨m9, meth, c, hn9, h1, h2, h3, h4, -, h5, h6, -⟩ := Cond.codeWith_spec (x := y) z
    cases hn.symm.trans hn9
    exact ⟨meth, c, h1, h2, h3, h4, h5, h6⟩
theorem ev_metof {N : ev_N} {rm : Room} {Pc : Array Value → State → Prop} {Qc : Array Value → State → Outcome → State → Prop} {mc ms : Nat} {free : Addr → Prop} (hy : plainFor N.1 = true)
    (body : ∀ p e s m args below meth c s₁, BodyLoose p l N.1 (headSpec (ev_ws N) rm) N.2.1 N.2.2.1 N.2.2.2.1 e s m args below meth c s₁ → c.maxLocals = N.2.2.1 → Pc args s →
      W p l e (headSpec (ev_ws N) rm).room s m args below meth c s.heap [] 0 0 (MQ below Qc args s mc ms free) (entryFrame m args N.2.2.1)) : Met l N.1 (ev_ws N) rm Pc Qc mc ms free := by
  refine MetFree.of_bodySF (code := N.2.1) (maxLocals := N.2.2.1) (ret := N.2.2.2.1) hy ev_his ?_
  intro p e s m args below meth c s₁ B hml hP _
  have hh0 : s₁.heap = s.heap := by rw [B.state]; rfl
  obtain ⟨t, a1, o, b1, b2, b3⟩ := body p e s m args below meth c s₁ B hml hP s₁ hh0 (Stand.of_body B)
  exact ⟨t, o, a1, b1, b2, ⟨b3.1, b3.2⟩⟩
theorem ev_metofT {N : ev_N} {rm : Room} {Pc : Array Value → State → Prop} {Qa : Array Value → State → Outcome → State → Prop} (hh : N.2.2.2.2.1 = []) (hy : plainFor N.1 = true)
    (body : ∀ p e s m args below meth c s₁, BodyLoose p l N.1 (headSpec (ev_ws N) rm) N.2.1 N.2.2.1 N.2.2.2.1 e s m args below meth c s₁ → c.maxLocals = N.2.2.1 → Pc args s →
      W p l e (headSpec (ev_ws N) rm).room s m args below meth c s.heap [] 0 0 (fun t => ∃ o, t.status = .running ∧ Ended t below o ∧ Qa args s o t) (entryFrame m args N.2.2.1)) : MetFree l N.1 (headSpec (ev_ws N) rm) Pc (fun _ _ _ _ _ => True) Qa := by
  refine MetFree.of_bodySF (code := N.2.1) (maxLocals := N.2.2.1) (ret := N.2.2.2.1) hy ev_his ?_
  intro p e s m args below meth c s₁ B hml hP _
  have hh0 : s₁.heap = s.heap := by rw [B.state]; rfl
  obtain ⟨t, a1, o, b1, b2, b3⟩ := body p e s m args below meth c s₁ B hml hP s₁ hh0 (Stand.of_body B)
  exact ⟨t, o, a1, b1, b2, b3⟩
/-- a method's body stands on these -/
theorem ev_ctx_of {N : ev_N} {rm : Room} {nL : Nat} {ws : va_W} {p : Program} {e : Env} {s : State} {m : MethodId} {args : Array Value} {below : List Frame} {meth : Method} {c : Code} {s₁ : State} (B : BodyLoose p l N.1 (headSpec (ev_ws N) rm) N.2.1 N.2.2.1 N.2.2.2.1 e s m args below meth c s₁) (hml : c.maxLocals = nL) (hT : tys.map Prod.snd = ev_tys) (hK : va_K D ev_cl tys s) (hX : ev_X ex (va_A ws s.heap.size) s s.heap) :
    ev_Ctx p rm s m args meth c D tys (va_A ws s.heap.size) ex N.2.1 N.1.cls N.1.name nL [] :=
  ⟨B.exec, B.bytes, hml, findClass_of_methodNamed B.named, fun w hw => atoms_spec (ws := ev_ws N) B.pre w (List.mem_cons_of_mem _ hw), hK, hT, fun _ h => Or.inr h, hX, (name_of_methodNamed B.named B.method).1, Or.inl rfl, rfl⟩
theorem ev_code_of {y : MethodName} {S : Spec} {cc : ByteArray} {ml : Nat} {rt : Option FieldType} {p : Program} {e : Env} {s : State} {m : MethodId} {args : Array Value} {below : List Frame} {meth : Method} {c : Code} {s₁ : State} (B : BodyLoose p l y S cc ml rt e s m args below meth c s₁) : meth.code = some c := by
  have z := (Stand.of_body B).code
  exact z
theorem ev_traces (hl : l.stackTraces = false) {e : Env} (h : l.admits e) : e.platform.stackTraces = false := by
  have z := h.2.2.2.2.1
  rw [z]
  exact hl
/-- the methods, one call deeper -/
noncomputable def ev_up (run : Nat → List ev_V → List ev_C → Option ev_R) (mi : Nat) (as : List ev_V) (w : List ev_C) : Option ev_R :=
  match ev_ms mi with
  | some (nL, ret, hh, code) => bif Nat.ble (ev_wds as) nL then ev_loop ret run ev_fds ev_jk ev_kb [] nL hh code 20000 (0, ev_ent 0 as, [], w, 0, 0) else none
  | none => none
set_option maxHeartbeats 4000000 in
theorem ev_upF_ok (hl : l.stackTraces = false) (hT : tys.map Prod.snd = ev_tys) (hmok : ∀ j, 0 < j → ev_Mok j) (hinf : ∀ mj N, ev_inf mj = some N → 0 < mj → ev_nok N) (hat : ∀ q ∈ ev_atl, ev_atoms q.1 q.2.1 q.2.2 ∧ Cond.castable (ev_xn q.2.2) (ev_xn q.2.2) ∈ lw_tbl) {d : Nat} {run : Nat → List ev_V → List ev_C → Option ev_R} (ih : ∀ mj as w res, run mj as w = some res → ev_Cok l D tys ex d mj as w res)
    (mi : Nat) (as : List ev_V) (w : List ev_C) (res : ev_R) {nL fuel : Nat} {ret : Option FieldType} {hh : List (Nat × Nat × Nat × Nat)} {code : List ev_I} (hms : ev_ms mi = some (nL, ret, hh, code)) (hcond : Nat.ble (ev_wds as) nL = true) (h : ev_loop ret run ev_fds ev_jk ev_kb [] nL hh code fuel (0, ev_ent 0 as, [], w, 0, 0) = some res) : ev_Cok l D tys ex (d + 1) mi as w res := by
  have hle := Nat.le_of_ble_eq_true hcond
  obtain ⟨out, w1, c1, n1⟩ := res
  cases out with
  | inl rv =>
    intro N hN hmi al ws sz vs hw hst
    obtain ⟨k1, k2, k3, k4, k5, k6, k7, ps, k8⟩ := hmok mi hmi N nL ret hh code hN hms
    refine ev_metof k4 ?_
    intro p e s m args below meth c s₁ B hml hv
    obtain ⟨rfl, rfl, hP, hK, hD0, hX⟩ := hv
    have hml' : c.maxLocals = nL := hml.trans k1
    have X := ev_ctx_of B hml' hT hK hX
    have hhead : (ev_head N).before vs.toArray s = true := atoms_spec (ws := ev_ws N) B.pre _ List.mem_cons_self
    have hrows := ev_hhok_rows (ev_table hhead B.named B.method (ev_code_of B)) k8
    have hD := hD0.self (sz := s.heap.size)
    rw [k1]
    refine ev_entry hw hst hle hP hD ?_
    refine ev_loop_ok (d := d) X k6 k7 hrows B.notSynchronized (ev_traces hl B.admits) (Nat.le_refl _) (by show 35 * d + 235 ≤ 35 * (d + 1) + 200; omega) hinf hat ih (Nat.le_refl _) (Nat.le_refl _) ?_ ?_ ?_ fuel _ h
    · intro pc L v w2 k n hend hrk he
      cases he
      intro al1 ws1 H locs ls lv st h1 h2 h3 h4 h5 h6 h7 h8
      obtain ⟨v', st1, rfl, g1, g2⟩ := ev_st_cons h8
      have e1 : st1 = [] := by
        cases st1 with
        | nil => rfl
        | cons a b => exact g2.elim
      subst e1
      have hrt : meth.sig.returnType = ret := B.returns.trans k2
      have hlk := B.notSynchronized
      have hq : ∀ t : State, t.heap = H → s.WarmedH t.vm → ev_Post D tys ex al ws s.heap.size (some v) w1 vs.toArray s (.returned (some v')) t := fun t ht _ => ⟨⟨some v', ws1, al1, rfl, g1, h1, h2, by rw [ht]; exact h3, h4⟩, h5.F ht⟩
      unfold ev_rok at hrk
      dsimp only at hrk
      rcases hend with ⟨hdec, hI⟩ | ⟨hdec, hI⟩ | ⟨hdec, hI⟩
      · obtain ⟨z, rfl⟩ := ev_rel_I hI g1
        split at hrk
        · exact W.iret B.exec B.bytes hrt hq h5.2.2 hdec
        · rcases v with (v | b)
          · cases v <;> first | (cases hI; done) | (cases hrk; done)
          · cases b <;> cases hrk
        · rcases v with (v | b)
          · cases v <;> first | (cases hI; done) | (cases hrk; done)
          · cases b <;> first | (cases hI; done) | (cases hrk; done)
        · rcases v with (v | b)
          · cases v <;> first | (cases hI; done) | (cases hrk; done)
          · cases b <;> first | (cases hI; done) | (cases hrk; done)
        · split at hrk
          · rename_i zz
            have e2 : (Value.int z) = .int zz := g1
            cases e2
            rw [decide_eq_true_eq] at hrk
            exact W.zret B.exec B.bytes hrt hrk hq h5.2.2 hdec
          · cases hrk
        · cases hrk
      · obtain ⟨z, rfl⟩ := ev_rel_L hI g1
        rcases v with (v | b)
        · cases v with
          | long y =>
            split at hrk
            · cases hrk
            · exact W.lret B.exec B.bytes hrt hq h5.2.2 hdec
            · cases hrk
            · cases hrk
            · cases hrk
            · cases hrk
          | _ => cases hI
        · cases b <;> cases hI
      · have hv := ev_rel_R hI g1
        split at hrk
        · rcases v with (v | b)
          · cases v <;> first | (cases hI; done) | (cases hrk; done)
          · cases b <;> first | (cases hI; done) | (cases hrk; done)
        · rcases v with (v | b)
          · cases v <;> first | (cases hI; done) | (cases hrk; done)
          · cases b <;> first | (cases hI; done) | (cases hrk; done)
        · exact W.aret B.exec B.bytes hrt (Or.inl ⟨_, rfl⟩) hv hq h5.2.2 hdec
        · exact W.aret B.exec B.bytes hrt (Or.inr ⟨_, rfl⟩) hv hq h5.2.2 hdec
        · rcases v with (v | b)
          · cases v <;> first | (cases hI; done) | (cases hrk; done)
          · cases b <;> first | (cases hI; done) | (cases hrk; done)
        · cases hrk
    · intro pc L w2 k n hdec hrk he
      cases he
      intro al1 ws1 H locs ls lv st h1 h2 h3 h4 h5 h6 h7 h8
      have e1 : st = [] := by
        cases st with
        | nil => rfl
        | cons a b => exact h8.elim
      subst e1
      have hlk := B.notSynchronized
      have hrt : meth.sig.returnType = none := by
        have z : decide (ret = none) = true := hrk
        rw [decide_eq_true_eq] at z
        exact (B.returns.trans k2).trans z
      exact W.vret B.exec B.bytes hrt (fun t ht _ => ⟨⟨none, ws1, al1, rfl, trivial, h1, h2, by rw [ht]; exact h3, h4⟩, h5.F ht⟩) h5.2.2 hdec
    · intro x w2 k n he
      cases he
  | inr x =>
    have hrk := ev_loop_rok _ _ h
    have hrk : (Nat.blt x 4 && hh.isEmpty) = true := hrk
    simp only [Bool.and_eq_true] at hrk
    obtain ⟨hx4, hemp⟩ := hrk
    have hx4 : x + 1 ≤ 4 := by simpa [Nat.blt] using hx4
    rw [List.isEmpty_iff] at hemp
    subst hemp
    refine ⟨hx4, ?_⟩
    intro N hN hmi
    obtain ⟨k1, k2, k3, k4, k5, k6, k7, ps, k8⟩ := hmok mi hmi N nL ret [] code hN hms
    have hnh : N.2.2.2.2.1 = [] := by
      cases hq : N.2.2.2.2.1 with
      | nil => rfl
      | cons a b =>
        rw [hq] at k8
        cases ps <;> cases k8
    refine ⟨hnh, ?_⟩
    intro al ws sz vs hw hst
    refine ev_metofT hnh k4 ?_
    intro p e s m args below meth c s₁ B hml hv
    obtain ⟨rfl, rfl, hP, hK, hD0, hX⟩ := hv
    have hml' : c.maxLocals = nL := hml.trans k1
    have X := ev_ctx_of B hml' hT hK hX
    have hhead : (ev_head N).before vs.toArray s = true := atoms_spec (ws := ev_ws N) B.pre _ List.mem_cons_self
    have hrows := ev_hhok_rows (ev_table hhead B.named B.method (ev_code_of B)) k8
    have hD := hD0.self (sz := s.heap.size)
    rw [k1]
    refine ev_entry hw hst hle hP hD ?_
    refine ev_loop_ok (d := d) X k6 k7 hrows B.notSynchronized (ev_traces hl B.admits) (Nat.le_refl _) (by show 35 * d + 235 ≤ 35 * (d + 1) + 200; omega) hinf hat ih (Nat.le_refl _) (Nat.le_refl _) ?_ ?_ ?_ fuel _ h
    · intro pc L v w2 k n hend hrk he
      cases he
    · intro pc L w2 k n hdec hrk he
      cases he
    · intro x2 w2 k n he
      cases he
      intro al1 ws1 H locs ax t h1 h2 h3 h4 h5 h6 h7 h8 h9 h10 h11
      exact ⟨.threw ax, h8, h9, ⟨⟨ax, ws1, al1, rfl, h1, h2, by rw [h7]; exact h3, h4, by rw [h7]; exact h6⟩, h5.F h7⟩, locs, ⟨h10, h11⟩, h5.2.2⟩
theorem ev_up_ok (hl : l.stackTraces = false) (hT : tys.map Prod.snd = ev_tys) (hmok : ∀ j, 0 < j → ev_Mok j) (hinf : ∀ mj N, ev_inf mj = some N → 0 < mj → ev_nok N) (hat : ∀ q ∈ ev_atl, ev_atoms q.1 q.2.1 q.2.2 ∧ Cond.castable (ev_xn q.2.2) (ev_xn q.2.2) ∈ lw_tbl) {d : Nat} {run : Nat → List ev_V → List ev_C → Option ev_R} (ih : ∀ mj as w res, run mj as w = some res → ev_Cok l D tys ex d mj as w res)
    (mi : Nat) (as : List ev_V) (w : List ev_C) (res : ev_R) (h : ev_up run mi as w = some res) : ev_Cok l D tys ex (d + 1) mi as w res := by
  unfold ev_up at h
  split at h
  · rename_i nL ret hh code hms
    simp only [Bool.cond_eq_ite] at h
    split at h
    · rename_i hcond
      exact ev_upF_ok hl hT hmok hinf hat ih mi as w res hms hcond h
    · cases h
  · cases h
theorem ev_run_ok (hl : l.stackTraces = false) (hT : tys.map Prod.snd = ev_tys) (hmok : ∀ j, 0 < j → ev_Mok j) (hinf : ∀ mj N, ev_inf mj = some N → 0 < mj → ev_nok N) (hat : ∀ q ∈ ev_atl, ev_atoms q.1 q.2.1 q.2.2 ∧ Cond.castable (ev_xn q.2.2) (ev_xn q.2.2) ∈ lw_tbl) :
    ∀ (d mi : Nat) (as : List ev_V) (w : List ev_C) (res : ev_R), ev_run ev_ms ev_fds ev_jk ev_kb d mi as w = some res → ev_Cok l D tys ex d mi as w res
  | 0, mi, as, w, res, h => by cases h
  | d + 1, mi, as, w, res, h => ev_up_ok hl hT hmok hinf hat (ev_run_ok hl hT hmok hinf hat d) mi as w res h
end EvRunOk
