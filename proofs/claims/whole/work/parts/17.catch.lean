/-! A handler takes what was thrown; its class may not have been resolved before -/
/-- the method's exception table, row by row -/
def ev_rows (own : String) : List ExceptionTableEntry → List (Nat × Nat × Nat × Nat) → Prop
  | [], [] => True
  | h :: t, q :: r => h.startPc = q.1 ∧ h.endPc = q.2.1 ∧ h.handlerPc = q.2.2.1 ∧ h.catchType ≠ 0 ∧ q.2.2.2 < 4 ∧ Cond.classLink own h.catchType (ev_xn q.2.2.2) ∈ ev_Ts ∧ ev_rows own t r
  | _, _ => False
theorem ev_xn_nc0 : ∀ x, x < 4 → ∀ y, y < 4 → x ≠ y → ev_ncs.any (fun q => decide (q.1 = ev_xn x) && decide (q.2 = ev_xn y)) = true := by decide +kernel
theorem ev_xn_nc (x : Nat) (hx : x < 4) (y : Nat) (hy : y < 4) (h : x ≠ y) : (ev_xn x, ev_xn y) ∈ ev_ncs := by
  obtain ⟨q, h1, h2⟩ := List.any_eq_true.mp (ev_xn_nc0 x hx y hy h)
  simp only [Bool.and_eq_true, decide_eq_true_eq] at h2
  obtain ⟨q1, q2⟩ := q
  obtain ⟨rfl, rfl⟩ := h2
  exact h1
theorem ev_ble (a b : Nat) : Nat.ble a b = decide (a ≤ b) := by
  by_cases h : a ≤ b
  · rw [Nat.ble_eq_true_of_le h, decide_eq_true h]
  · rw [decide_eq_false h]
    cases hb : Nat.ble a b with
    | false => rfl
    | true => exact absurd (Nat.le_of_ble_eq_true hb) h
section EvCatch
variable {e : Env} {s : State} {args : Array Value} {own : String} {f : JFrame} {a : Addr} {cell : Cell} {x : Nat}
theorem ev_search (hpl : e.platform.magicAccessors = ({} : Platform).magicAccessors) (hown : s.vm.findClass own = some f.method.cls) (hts : ∀ w ∈ ev_Ts, w.before args s = true) (hnc : ∀ q ∈ ev_ncs, va_Nc q.1 q.2 s) (hobj : cell.vm.isStatics = false) (hcls : s.vm.findClass (ev_xn x) = some cell.cls) (hx4 : x < 4) :
    ∀ (tbl : List ExceptionTableEntry) (hh : List (Nat × Nat × Nat × Nat)), ev_rows own tbl hh → ∀ tgt : Nat, ev_hand hh f.pc x = some tgt → ∀ S : State, s.WarmedH S.vm → S.heap[a]? = some cell →
      ∃ vm' : Vm, s.WarmedH vm' ∧ ∀ (Q : Handler → Pre) (E : CtlPost) (d : Bool) (acts : List Action), wp (findHandler.go f a tbl) Q E e d acts S ↔ Q (.found tgt) d acts (S.setVm vm')
  | [], [], _, tgt, hf, _, _, _ => by simp [ev_hand] at hf
  | [], _ :: _, hr, _, _, _, _, _ => hr.elim
  | _ :: _, [], hr, _, _, _, _, _ => hr.elim
  | h :: t, (qa, qb, qt, qy) :: r, hr, tgt, hf, S, hW, hcell => by
    obtain ⟨r1, r2, r3, r4, r5, r6, r7⟩ := hr
    dsimp only at r1 r2 r3 r5 r6
    have hcov : covers h f.pc = (Nat.ble qa f.pc && Nat.blt f.pc qb) := by
      simp only [covers, r1, r2, Nat.blt, ev_ble]
      rfl
    cases hc : (Nat.ble qa f.pc && Nat.blt f.pc qb) with
    | false =>
      rw [hc] at hcov
      have hf' : ev_hand r f.pc x = some tgt := by
        simpa [ev_hand, hc] using hf
      obtain ⟨vm', z1, z2⟩ := ev_search hpl hown hts hnc hobj hcls hx4 t r r7 tgt hf' S hW hcell
      exact ⟨vm', z1, fun Q E d acts => by rw [W.findHandler_go_skip hcov]; exact z2 Q E d acts⟩
    | true =>
      rw [hc] at hcov
      obtain ⟨ct, hct, hcl⟩ := Cond.classLink_spec hown (hts _ r6) e.platform hpl
      obtain ⟨dk, _, _, kt, hd, _, _, _, _, hkt, _, hopen⟩ := hcl.here
      have hcl0 := hW.classLinks hcl
      have hW' : s.WarmedH (S.vm.noted f.method.cls h.catchType (.cls ct)) := hW.noted hd hopen (State.rightAt_cls hcl)
      obtain ⟨ha, ht⟩ := (resolveClass_links e.toSetting hcl0).op (op := VmOp.resolveClass f.method.cls h.catchType) rfl
      have hal : S.vm.Alike (S.vm.noted f.method.cls h.catchType (.cls ct)) := (Vm.Alike.refl S.vm).noted _ _ _
      obtain ⟨kc, hkc, -⟩ := Vm.findClass_spec hcls
      obtain ⟨k1, hk1, -⟩ := hW.alike.2.2 _ _ hkc
      obtain ⟨k2, hk2, -⟩ := hW.alike.2.2 _ _ hkt
      obtain ⟨k1', hk1', -⟩ := hal.2.2 _ _ hk1
      obtain ⟨k2', hk2', -⟩ := hal.2.2 _ _ hk2
      have hcov' := hcov
      simp only [covers] at hcov'
      have hobj' : ∀ k, cell.vm ≠ .statics k := VmData.ne_statics_of hobj
      cases hy : Nat.beq x qy with
      | true =>
        have e1 := Nat.eq_of_beq_eq_true hy
        subst e1
        have hf' : some qt = some tgt := by
          simpa [ev_hand, hc] using hf
        cases hf'
        cases hcls.symm.trans hct
        have hfit : (S.vm.noted f.method.cls h.catchType (.cls cell.cls)).assignable cell.cls cell.cls = true := va_asg _ _
        refine ⟨_, hW', fun Q E d acts => ?_⟩
        rw [← r3]
        simp [findHandler.go, hcov', r4, ha, ht, hcell, hobj', hk1', hfit, VmOp.dirties, VmOp.acts]
      | false =>
        have hne : x ≠ qy := fun z => by subst z; simp at hy
        have hf' : ev_hand r f.pc x = some tgt := by
          simpa [ev_hand, hc, hy] using hf
        obtain ⟨c3, t3, w1, w2, w3⟩ := hnc _ (ev_xn_nc x hx4 qy r5 hne)
        cases hcls.symm.trans w1
        cases hct.symm.trans w2
        have hno : (S.vm.noted f.method.cls h.catchType (.cls ct)).assignable cell.cls ct = false := by rw [hal.assignable, hW.alike.assignable]; exact w3
        obtain ⟨vm', z1, z2⟩ := ev_search hpl hown hts hnc hobj hcls hx4 t r r7 tgt hf' (S.setVm (S.vm.noted f.method.cls h.catchType (.cls ct))) hW' hcell
        refine ⟨vm', z1, fun Q E d acts => ?_⟩
        have z3 := z2 Q E d acts
        rw [State.setVm_setVm] at z3
        rw [← z3]
        simp [findHandler.go, hcov', r4, ha, ht, hcell, hobj', hk1', hk2', hno, VmOp.dirties, VmOp.acts]
end EvCatch
