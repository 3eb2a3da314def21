/-! Whole methods: what the evaluator answers is the method's contract -/
section EvRun
variable {p : Program} {l : Launch} {e : Env} {R : Room} {s : State} {m : MethodId} {args : Array Value} {below : List Frame} {meth : Method} {c : Code} {Q : State → Prop} {D : va_G} {tys : List (ClassId × FieldType)} {A : Nat → Prop} {ex : Nat → Nat} {al0 : List Nat} {nL : Nat} {sc : List ev_V}
variable {cc : ByteArray} {own nm : String} {hh : List (Nat × Nat × Nat × Nat)} {code : List ev_I} {d : Nat} {run : Nat → List ev_V → List ev_C → Option ev_R}
theorem ev_loop_ok {ret : Option FieldType} {r : ev_R} (X : ev_Ctx p R s m args meth c D tys A ex cc own nm nL sc) (hok : code.all (ev_ok own nm cc) = true) (hokc : code.all (ev_okc own) = true) (hrows : ev_rows own c.exceptionTable.toList hh) (hlocks : meth.locks = false) (htr : e.platform.stackTraces = false)
    (hfr : d + 11 ≤ R.frames) (hlo : 35 * d + 235 ≤ R.locals) (hinf : ∀ mj N, ev_inf mj = some N → 0 < mj → ev_nok N) (hat : ∀ q ∈ ev_atl, ev_atoms q.1 q.2.1 q.2.2 ∧ Cond.castable (ev_xn q.2.2) (ev_xn q.2.2) ∈ lw_tbl) (hrun : ∀ mj as w res, run mj as w = some res → ev_Cok l D tys ex d mj as w res)
    (hM1 : r.2.2.1 ≤ R.cells) (hM2 : r.2.2.2 ≤ R.slots)
    (hret : ∀ (pc : Nat) (L : List (Nat × ev_V)) (v : ev_V) (w : List ev_C) (k n : Nat), ev_end1 cc pc v → ev_rok ret hh (.inl (some v), w, k, n) = true → (.inl (some v), w, k, n) = r → ev_G p l e R s m args below meth c Q D ev_cl tys A ex al0 nL (pc, L, [v], w, k, n))
    (hretv : ∀ (pc : Nat) (L : List (Nat × ev_V)) (w : List ev_C) (k n : Nat), decode cc pc = .ok (.return_, 1) → ev_rok ret hh (.inl none, w, k, n) = true → (.inl none, w, k, n) = r → ev_G p l e R s m args below meth c Q D ev_cl tys A ex al0 nL (pc, L, [], w, k, n))
    (hthr : ∀ (x : Nat) (w : List ev_C) (k n : Nat), (.inr x, w, k, n) = r → ev_HQ below s Q D tys A ex al0 x w k n) :
    ∀ (fuel : Nat) (f : ev_F), ev_loop ret run ev_fds ev_jk ev_kb sc nL hh code fuel f = some r → ev_G p l e R s m args below meth c Q D ev_cl tys A ex al0 nL f
  | 0, f, h => by cases h
  | fuel + 1, f, h => by
    have h : ev_body (fun r => bif ev_rok ret hh r then some r else none) run ev_fds ev_jk ev_kb sc nL hh code (ev_loop ret run ev_fds ev_jk ev_kb sc nL hh code fuel) f = some r := h
    refine ev_body_ok (M1 := r.2.2.1) (M2 := r.2.2.2) X hok hokc hrows hlocks htr hfr hlo hinf hat hrun hM1 hM2 (fun f' hf' => ev_loop_mono fuel f' hf') (fun res hres => ?_)
      (fun f' hf' => ev_loop_ok X hok hokc hrows hlocks htr hfr hlo hinf hat hrun hM1 hM2 hret hretv hthr fuel f' hf') ?_ ?_ ?_ h
    · obtain ⟨-, rfl⟩ := ev_bif hres
      exact ⟨Nat.le_refl _, Nat.le_refl _⟩
    · intro pc L v w k n h1 h3
      obtain ⟨h4, h5⟩ := ev_bif h3
      exact hret pc L v w k n h1 h4 h5
    · intro pc L w k n h1 h3
      obtain ⟨h4, h5⟩ := ev_bif h3
      exact hretv pc L w k n h1 h4 h5
    · intro x w k n h3
      obtain ⟨h4, h5⟩ := ev_bif h3
      exact hthr x w k n h5
theorem ev_to_ok {r : ev_F} {stop : Nat} (X : ev_Ctx p R s m args meth c D tys A ex cc own nm nL sc) (hok : code.all (ev_ok own nm cc) = true) (hokc : code.all (ev_okc own) = true) (hrows : ev_rows own c.exceptionTable.toList hh) (hlocks : meth.locks = false) (htr : e.platform.stackTraces = false)
    (hfr : d + 11 ≤ R.frames) (hlo : 35 * d + 235 ≤ R.locals) (hinf : ∀ mj N, ev_inf mj = some N → 0 < mj → ev_nok N) (hat : ∀ q ∈ ev_atl, ev_atoms q.1 q.2.1 q.2.2 ∧ Cond.castable (ev_xn q.2.2) (ev_xn q.2.2) ∈ lw_tbl) (hrun : ∀ mj as w res, run mj as w = some res → ev_Cok l D tys ex d mj as w res)
    (hM1 : r.2.2.2.2.1 ≤ R.cells) (hM2 : r.2.2.2.2.2 ≤ R.slots) (hr : ev_G p l e R s m args below meth c Q D ev_cl tys A ex al0 nL r) :
    ∀ (fuel : Nat) (f : ev_F), ev_to run ev_fds ev_jk ev_kb sc nL hh code stop fuel f = some r → ev_G p l e R s m args below meth c Q D ev_cl tys A ex al0 nL f
  | 0, f, h => by cases h
  | fuel + 1, f, h => by
    have h : (bif Nat.beq f.1 stop then some f else ev_body (fun _ => none) run ev_fds ev_jk ev_kb sc nL hh code (ev_to run ev_fds ev_jk ev_kb sc nL hh code stop fuel) f) = some r := h
    cases hb : Nat.beq f.1 stop with
    | true => rw [hb] at h; cases h; exact hr
    | false =>
      rw [hb] at h
      have h : ev_body (fun _ => none) run ev_fds ev_jk ev_kb sc nL hh code (ev_to run ev_fds ev_jk ev_kb sc nL hh code stop fuel) f = some r := h
      exact ev_body_ok (fin := fun _ => none) (M1 := r.2.2.2.2.1) (M2 := r.2.2.2.2.2) X hok hokc hrows hlocks htr hfr hlo hinf hat hrun hM1 hM2 (fun f' hf' => ev_to_mono fuel f' hf') (fun res hres => nomatch hres)
        (fun f' hf' => ev_to_ok X hok hokc hrows hlocks htr hfr hlo hinf hat hrun hM1 hM2 hr fuel f' hf') (fun _ _ _ _ _ _ _ hq => nomatch hq) (fun _ _ _ _ _ _ hq => nomatch hq) (fun _ _ _ _ hq => nomatch hq) h
end EvRun
/-! the locals at a method's start -/
theorem ev_ent_rel {al : List Nat} {ex : Nat → Nat} : ∀ {as : List ev_V} {vs : List Value} (i : Nat), ev_st al ex as vs → ev_lv al ex (ev_ent i as) (lv_args i vs)
  | [], [], _, _ => trivial
  | a :: as, v :: vs, i, h => by
    have h1 := ev_rel_cat h.1
    refine ⟨rfl, h.1, ?_⟩
    cases hc : ev_c1 a with
    | true =>
      rw [hc] at h1
      rw [if_neg (by simpa using h1)]
      exact ev_ent_rel (i + 1) h.2
    | false =>
      rw [hc] at h1
      rw [if_pos (by simpa using h1)]
      exact ev_ent_rel (i + 2) h.2
  | [], _ :: _, _, h => h.elim
  | _ :: _, [], _, h => h.elim
theorem ev_sl_len {al : List Nat} {ex : Nat → Nat} : ∀ {as : List ev_V} {vs : List Value}, ev_st al ex as vs → (lg_sl vs).length = ev_wds as
  | [], [], _ => rfl
  | a :: as, v :: vs, h => by
    have h1 := ev_rel_cat h.1
    have h2 := ev_sl_len h.2
    unfold lg_sl at h2 ⊢
    rw [List.flatMap_cons, List.length_append, h2]
    cases hc : ev_c1 a with
    | true =>
      rw [hc] at h1
      rw [if_neg (by simpa using h1)]
      simp [ev_wds, hc]
    | false =>
      rw [hc] at h1
      rw [if_pos (by simpa using h1)]
      simp [ev_wds, hc]
  | [], _ :: _, h => h.elim
  | _ :: _, [], h => h.elim
/-- a method of the list is what its bytes, its words, its table say -/
def ev_Mok (j : Nat) : Prop :=
  ∀ (N : ev_N) (nL : Nat) (ret : Option FieldType) (hh : List (Nat × Nat × Nat × Nat)) (code : List ev_I), ev_inf j = some N → ev_ms j = some (nL, ret, hh, code) →
    N.2.2.1 = nL ∧ N.2.2.2.1 = ret ∧ ev_head N ∈ ev_Ts ∧ plainFor N.1 = true ∧ nL ≤ 16 ∧ code.all (ev_ok N.1.cls N.1.name N.2.1) = true ∧ code.all (ev_okc N.1.cls) = true ∧ ∃ ps, ev_hhok N.1.cls N.2.2.2.2.1 hh ps = true
section EvMeth
variable {l : Launch} {D : va_G} {tys : List (ClassId × FieldType)} {ex : Nat → Nat}
/-- at a method's entry -/
theorem ev_entry {p : Program} {e : Env} {s : State} {m : MethodId} {below : List Frame} {meth : Method} {c : Code} {R : Room} {Q : State → Prop} {al : List Nat} {ws : va_W} {nL : Nat} {vs : List Value} {as : List ev_V} {w : List ev_C} (hw : ev_w al ex tys w ws) (hst : ev_st al ex as vs) (hlen : ev_wds as ≤ nL) (hP : va_P D ev_cl ws s.heap) (hD : va_D (va_A ws s.heap.size) ws)
    (h : ev_G p l e R s m vs.toArray below meth c Q D ev_cl tys (va_A ws s.heap.size) ex al nL (0, ev_ent 0 as, [], w, 0, 0)) : W p l e R s m vs.toArray below meth c s.heap [] 0 0 Q (entryFrame m vs.toArray nL) := by
  have hl := lv_entry vs (n := nL) (by rw [ev_sl_len hst]; exact hlen)
  rw [lg_entry_eq]
  exact h al ws s.heap [] _ (lv_args 0 vs) [] (List.prefix_refl _) hw hP hD va_S.rf hl (ev_ent_rel 0 hst) trivial
theorem ev_table {N : ev_N} {args : Array Value} {s : State} {m : MethodId} {meth : Method} {c : Code} (h : (ev_head N).before args s = true) (hn : s.methodNamed? N.1 = some m) (hm : s.vm.method? m = some meth) (hc : meth.code = some c) : c.exceptionTable.toList.map (fun h => (h.startPc, h.endPc, h.handlerPc, h.catchType)) = N.2.2.2.2.1 := by
  obtain ⟨y, b, ml, rt, hh, pl⟩ := N
  cases hh with
  | nil =>
    obtain ⟨m1, c1, h1, h2, -, -, -, -, h3, -⟩ := Cond.code_spec (x := y) hn h
    cases hm.symm.trans h1
    cases hc.symm.trans h2
    have : c.exceptionTable.toList = [] := by
      rw [Array.isEmpty_iff] at h3
      rw [h3]
    rw [this]
    rfl
  | cons a t =>
    obtain ⟨mk1, m1, c1, h0, h1, h2, -, -, h3, -⟩ := Cond.codeWith_spec (x := y) h
    cases hn.symm.trans h0
    cases hm.symm.trans h1
    cases hc.symm.trans h2
    exact h3
end EvMeth
