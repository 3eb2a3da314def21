/-! Calls that throw; handlers; leaving by a throw -/
/-- the classes of what is thrown, by number -/
def ev_xn : Nat → String
  | 0 => "java/lang/IllegalArgumentException"
  | 1 => "java/lang/IllegalStateException"
  | 2 => "java/lang/UnsupportedOperationException"
  | _ => "java/lang/IndexOutOfBoundsException"
def ev_exc (x : Nat) (ax : Addr) (s : State) (H : Heap) : Prop := ∃ cell : Cell, H[ax]? = some cell ∧ cell.vm.isStatics = false ∧ s.vm.findClass (ev_xn x) = some cell.cls
def ev_QT (D : va_G) (tys : List (ClassId × FieldType)) (ex : Nat → Nat) (al : List Nat) (ws : va_W) (sz : Nat) (x : Nat) (w1 : List ev_C) (st : State) (oc : Outcome) (t : State) : Prop :=
  (∃ (ax : Addr) (ws1 : va_W) (al1 : List Nat), oc = .threw ax ∧ al <+: al1 ∧ ev_w al1 ex tys w1 ws1 ∧ va_P D ev_cl ws1 t.heap ∧ va_D (va_A ws sz) ws1 ∧ ev_exc x ax st t.heap) ∧ va_F (va_A ws sz) st t
def ev_QTL (D : va_G) (tys : List (ClassId × FieldType)) (ex : Nat → Nat) (al : List Nat) (ws : va_W) (sz : Nat) (x : Nat) (w1 : List ev_C) (c1 n1 : Nat) : Array Value → State → Outcome → State → Prop := fun _ st o t =>
  ev_QT D tys ex al ws sz x w1 st o t ∧ ∃ L : List Loc, (st.WarmedH t.vm ∧ st.sameButNew ({ t with vm := st.vm } : State) L c1 n1) ∧ ∀ q ∈ L, va_A ws sz q.base
/-- the contract of a method that throws -/
def ev_MetT (l : Launch) (D : va_G) (tys : List (ClassId × FieldType)) (ex : Nat → Nat) (N : ev_N) (d : Nat) (as : List ev_V) (w : List ev_C) (x : Nat) (w1 : List ev_C) (c1 n1 : Nat) : Prop :=
  ∀ (al : List Nat) (ws : va_W) (sz : Nat) (vs : List Value), ev_w al ex tys w ws → ev_st al ex as vs → MetFree l N.1 (headSpec (ev_ws N) (ev_room d c1 n1)) (va_Pc vs (ev_Pre D tys ex ws sz)) (fun _ _ _ _ _ => True) (ev_QTL D tys ex al ws sz x w1 c1 n1)
/-- a thrown object lies over the frame at pc -/
def ev_TG (p : Program) (l : Launch) (e : Env) (R : Room) (s : State) (m : MethodId) (args : Array Value) (below : List Frame) (meth : Method) (c : Code) (Q : State → Prop) (D : va_G) (tys : List (ClassId × FieldType)) (A : Nat → Prop) (ex : Nat → Nat) (al0 : List Nat) (nL : Nat) (pc : Nat) (L : List (Nat × ev_V)) (x : Nat) (w1 : List ev_C) (k n : Nat) : Prop :=
  ∀ (al : List Nat) (ws : va_W) (H : Heap) (locs : List Loc) (ls : Array Slot) (lv : List (Nat × Value)) (rest : List Value) (ax : Addr), al0 <+: al → ev_w al ex tys w1 ws → va_P D ev_cl ws H → va_D A ws → va_S A s.heap H locs → lv_has ls nL lv → ev_lv al ex L lv → ev_exc x ax s H →
    ∀ T : State, T.heap = H → Stand p l e R s m args below meth c T locs k n → ∃ t, Steps p.tables e below ((T.setTop (F0 m pc ls rest)).pushFrame (.throwing ax)) t ∧ Q t
section EvThrow
variable {p : Program} {l : Launch} {e : Env} {R : Room} {s : State} {m : MethodId} {args : Array Value} {below : List Frame} {meth : Method} {c : Code} {Q : State → Prop} {D : va_G} {tys : List (ClassId × FieldType)} {A : Nat → Prop} {ex : Nat → Nat} {al0 : List Nat} {nL : Nat} {sc : List ev_V}
variable {pc k n : Nat} {L : List (Nat × ev_V)} {S1 : List ev_V} {w : List ev_C} {cc : ByteArray} {own nm : String}
/-- a callee without handlers is entered, and throws -/
theorem ev_enterT {U : State} {Ls : List Loc} {c0 s0 : Nat} (X : Stand p l e R s m args below meth c U Ls c0 s0) {N : ev_N} {d c1 n1 : Nat} {Pc : Array Value → State → Prop} {Qa : Array Value → State → Outcome → State → Prop} (hM : MetFree l N.1 (headSpec (ev_ws N) (ev_room d c1 n1)) Pc (fun _ _ _ _ _ => True) Qa)
    (hQa : ∀ a st o t, Qa a st o t → (∃ ax, o = .threw ax) ∧ ∃ L : List Loc, st.WarmedH t.vm ∧ st.sameButNew ({ t with vm := st.vm } : State) L c1 n1)
    (hh : N.2.2.2.2.1 = []) (hw : ∀ w ∈ ev_ws N, ∀ a', w.before a' U = true) (hini : ∀ a', (Cond.initialized N.1.cls).before a' U = true) {g : JFrame} (hg : g.method = m) (hsize : g.locals.size = c.maxLocals) {ig : Instr} (hdg : decode c.code g.pc = .ok (ig, 3)) (hW : 2 * g.monitorRoom + (g.stack.map fun v => v.category).sum ≤ 8)
    {mk : MethodId} (hn : U.methodNamed? N.1 = some mk) {a : Array Value} (hP : Pc a (U.calling g mk a)) (hfr : d + 11 ≤ R.frames) (hlo : 8 + (N.2.2.1 + 11) + (35 * d + 200) ≤ R.locals) (hcc : c0 + c1 ≤ R.cells) (hnn : s0 + n1 ≤ R.slots) :
    ∃ (ax : Addr) (t U' : State) (L : List Loc), Qa a (U.calling g mk a) (.threw ax) t ∧ (∀ L' : List Loc, (U.calling g mk a).sameButNew ({ t with vm := (U.calling g mk a).vm } : State) L' c1 n1 → Stand p l e R s m args below meth c U' (Ls ++ L') (c0 + c1) (s0 + n1)) ∧ U'.heap = t.heap ∧ U'.vm = t.vm ∧ (U.calling g mk a).sameButNew ({ t with vm := (U.calling g mk a).vm } : State) L c1 n1 ∧
      Steps p.tables e below (doInvoke e (U.setTop g) [] mk a).1 ((U'.setTop g).pushFrame (.throwing ax)) := by
  have hcw : (Cond.code N.1 N.2.1 N.2.2.1 N.2.2.2.1).before a U = true := by
    have := hw _ List.mem_cons_self a
    unfold ev_head at this
    rw [hh] at this
    exact this
  obtain ⟨methY, cY, hmY, hcY, -, hlY, -, -, -, -⟩ := Cond.code_spec hn hcw
  obtain ⟨kY, hkY, -⟩ := className_of_methodNamed hn
  have hinitY : kY.init = .initialized := Cond.initialized_spec (findClass_of_methodNamed hn) hkY (hini a)
  have h : At U g.method c below := by rw [hg]; exact X.here
  have hroom := X.room_calling (g := g) (R' := ev_room d c1 n1) (args' := a) hsize hmY hcY hfr (by show _ + _ + (cY.maxLocals + 11) + (35 * d + 200) ≤ _; rw [hlY]; omega) hcc hnn
  have happ : (headSpec (ev_ws N) (ev_room d c1 n1)).appliesLoose N.1 e.platform (U.calling g mk a) = true :=
    Spec.appliesLoose_calling (g := g) h hdg hn hkY hinitY hroom (atoms_intro fun w hq => hw w hq a)
  obtain ⟨mid, hmid⟩ := h.above
  have hframes : (U.setTop g).frames = (.java g :: mid) ++ below := by rw [State.frames_setTop' g h.top, hmid]; rfl
  obtain ⟨o, s₂, hsteps, -, hend, hq⟩ := Steps.callFree hM p X.admits X.cas X.clock (acts := []) hframes happ hP trivial
  have hq' : Qa a (U.calling g mk a) o s₂ := hq
  rw [State.frames_setTop' g h.top] at hend
  obtain ⟨⟨ax, rfl⟩, L, hW₂, hsame⟩ := hQa _ _ _ _ hq'
  obtain ⟨e2, q2, q3, q4, q5, q6⟩ := id hsame
  have hf₂ : s₂.frames = .throwing ax :: .java g :: U.frames.tail := hend
  have hW' : U.WarmedH s₂.vm := hW₂
  have e3 : s₂ = ({ (U.calling g mk a).setFrames s₂.frames with heap := s₂.heap, slotsUsed := s₂.slotsUsed } : State).setVm s₂.vm := by
    have z : s₂ = ({ s₂ with vm := (U.calling g mk a).vm } : State).setVm s₂.vm := rfl
    rw [e2] at z
    exact z
  obtain ⟨g₀, hg0⟩ := Option.isSome_iff_exists.mp h.top
  obtain ⟨r, hr⟩ := State.topJava?_eq_some.mp hg0
  have hr' : (({ U with heap := s₂.heap, slotsUsed := s₂.slotsUsed } : State).setVm s₂.vm).frames = .java g₀ :: r := hr
  have hs₂ : s₂ = ((({ U with heap := s₂.heap, slotsUsed := s₂.slotsUsed } : State).setVm s₂.vm).setTop g).pushFrame (.throwing ax) := by
    refine e3.trans ?_
    rw [hf₂, State.calling_eq h.top, State.setFrames_setFrames, State.pushFrame, State.frames_setTop _ hr', State.setTop_of_frames _ hr', State.setFrames_setFrames, hr]
    rfl
  refine ⟨ax, s₂, ({ U with heap := s₂.heap, slotsUsed := s₂.slotsUsed } : State).setVm s₂.vm, L, hq', fun L' hL' => ?_, rfl, rfl, hsame, ?_⟩
  · obtain ⟨-, -, -, -, -, q6'⟩ := hL'
    have hS2 : U.sameButNew ({ U with heap := s₂.heap, slotsUsed := s₂.slotsUsed } : State) L' c1 n1 := by
      refine ⟨?_, q2, q3, q4, q5, q6'⟩
      obtain ⟨t, ht, -⟩ := State.frames_cons hr
      show ({ U with heap := s₂.heap, slotsUsed := s₂.slotsUsed } : State) = { U.setFrames U.frames with heap := s₂.heap, slotsUsed := s₂.slotsUsed }
      rw [State.setFrames_self ht]
    subst hg
    exact ⟨X.admits, X.cas, X.clock, X.frames, X.room, X.hears, X.method, X.code, (X.here.setHeapUsed s₂.heap s₂.slotsUsed).setVm hW'.alike, X.tail, State.WarmedH.trans X.warmed hW', X.limits, X.bytes, X.same.trans (hS2.setVm s.vm)⟩
  · have z : Steps p.tables e below (doInvoke e (U.setTop g) [] mk a).1 s₂ := hsteps
    rw [hs₂] at z
    exact z
/-- a virtual call whose callee throws -/
theorem es_callVT (X : ev_Ctx p R s m args meth c D tys A ex cc own nm nL sc) {N1 N : ev_N} {d idx : Nat} {C : String} {o : ev_V} {as : List ev_V} {x : Nat} {w1 : List ev_C} {c1 n1 : Nat} (hM : ev_MetT l D tys ex N d (o :: as) w x w1 c1 n1)
    (hd : decode cc pc = .ok (.invokevirtual idx, 3)) (hh : N.2.2.2.2.1 = []) (hN : ev_head N ∈ ev_Ts) (hlink : Cond.methodLink own idx N1.1 ∈ ev_Ts) (hsel : ev_sel C N1.1 N.1 s) (hini : Cond.initialized N.1.cls ∈ ev_Ts) (hnp : ev_np N1.1 as.length)
    (hrecv : ∀ (al : List Nat) (ws : va_W) (H : Heap) (locs : List Loc) (v : Value), ev_w al ex tys w ws → va_P D ev_cl ws H → va_S A s.heap H locs → ev_rel al ex o v → ∃ b, v = .ref b ∧ ∃ cellB : Cell, H[b]? = some cellB ∧ cellB.vm.isStatics = false ∧ s.vm.findClass C = some cellB.cls)
    (hfr : d + 11 ≤ R.frames) (hlo : 8 + (N.2.2.1 + 11) + (35 * d + 200) ≤ R.locals) (hcc : k + c1 ≤ R.cells) (hnn : n + n1 ≤ R.slots) (hS : ev_wds S1 ≤ 8)
    (h : ev_TG p l e R s m args below meth c Q D tys A ex al0 nL pc L x w1 (k + c1) (n + n1)) : ev_G p l e R s m args below meth c Q D ev_cl tys A ex al0 nL (pc, L, as.reverse ++ o :: S1, w, k, n) := by
  intro al ws H locs ls lv st h1 h2 h3 h4 h5 h6 h7 h8
  obtain ⟨sa, sb, rfl, g1, g2⟩ := ev_st_split h8
  obtain ⟨vo, rest, rfl, g3, g4⟩ := ev_st_cons g2
  obtain ⟨b, rfl, cellB, hcB, hoB, hclB⟩ := hrecv al ws H locs vo h2 h3 h5 g3
  have g1' := ev_st_rev g1
  rw [List.reverse_reverse] at g1'
  have X' := X
  obtain ⟨hx, hb, hml, hown, hts, hK, hT, hA, hX, -⟩ := X
  have hF := ev_A_free hA h4 h5
  obtain ⟨r0, mk, rM, methM, kr, kP, hn0, hrm0, hst0, hkr, hkri, hnamed, hmethM, habM, hkP, hkPi, hsigM, q4⟩ := hsel
  have q4 := q4 _ hclB
  have hlen : ∀ sig, parseMethodDescriptor N1.1.desc = some sig → sa.reverse.length = sig.parameters.length := by
    intro sig hsig
    have z := hnp.2.2
    rw [hsig] at z
    rw [← ev_st_len g1']
    exact (Option.some.inj z).symm
  intro T hT' X''
  have hselP : selectMethod e.platform s.vm cellB.cls r0 = .method mk := by rw [Launch.admits_selectMethod X''.admits]; exact q4
  obtain ⟨vm₁, X₁, hstep₁⟩ := X''.invokevirtual hx hown (hts _ hlink) hn0 hrm0 hst0 hkr hkri ⟨hnp.1, hnp.2.1⟩ (a := b) (cell := cellB) (by rw [hT']; exact hcB)
    (fun z hz => by rw [hz] at hoB; cases hoB) hselP hmethM habM hkP hkPi (g := F0 m pc ls (sa ++ .ref b :: rest)) rfl (argsL := sa.reverse) (rest := rest) (hlen _ hsigM) (by rw [List.reverse_reverse]) (by rw [hb]; exact hd)
  have hws : ∀ w ∈ ev_ws N, ∀ a', w.before a' (T.setVm vm₁) = true := fun w hq a' => pay_in hts (ev_good N hN) w hq a' (T.setVm vm₁) X₁.warmed
  have hin : ∀ a', (Cond.initialized N.1.cls).before a' (T.setVm vm₁) = true := fun a' => word_at X₁.warmed (ev_goodT hini).2 (hts _ hini)
  obtain ⟨ax, t, U', L', hq, hstand, e1, e2, hsame, hsteps⟩ := ev_enterT X₁ (hM al ws H.size (.ref b :: sa.reverse) h2 ⟨g3, g1'⟩) (fun a st o t z => ⟨by
      obtain ⟨⟨⟨ax, _, _, hz, -⟩, -⟩, -⟩ := z
      exact ⟨ax, hz⟩, by
      obtain ⟨-, L, hL, -⟩ := z
      exact ⟨L, hL⟩⟩) hh hws hin (g := { F0 m pc ls (sa ++ .ref b :: rest) with stack := rest }) rfl (h6.1.trans hml.symm) (by rw [hb]; exact hd) (ev_rest_room rfl g4 hS) (X₁.named hnamed)
    (ev_blind _ _ _ _ (ev_pre_at X' h2 h3 h4 h5 (vs := .ref b :: sa.reverse) (T.setVm vm₁) hT' X₁.warmed)) hfr hlo hcc hnn
  obtain ⟨⟨⟨ax', ws1, al1, hax, p1, p2, p3, p4, p5⟩, hz, hk⟩, L2, ⟨-, hs2⟩, hL2⟩ := hq
  cases hax
  have hheap0 : ((T.setVm vm₁).calling { F0 m pc ls (sa ++ .ref b :: rest) with stack := rest } mk (Value.ref b :: sa.reverse).toArray).heap = H := hT'
  rw [hheap0] at hz hk
  have X₂ := hstand L2 hs2
  have hexc : ev_exc x ax s U'.heap := by
    obtain ⟨cell, y1, y2, y3⟩ := p5
    refine ⟨cell, by rw [e1]; exact y1, y2, ?_⟩
    have y4 : (T.setVm vm₁).vm.findClass (ev_xn x) = some cell.cls := y3
    rw [X₁.warmed.alike.findClass] at y4
    exact y4
  obtain ⟨tt, a1, b1⟩ := h al1 ws1 U'.heap (locs ++ L2) ls lv rest ax (h1.trans p1) p2 (by rw [e1]; exact p3) (p4.weaken (fun _ _ _ z => hF _ z))
    ⟨Nat.le_trans h5.1 (by rw [e1]; exact hz), fun q g1 g2 => by rw [e1, hk q (Nat.lt_of_lt_of_le g1 h5.1) (fun z => g2 (hF q z))]; exact h5.2.1 q g1 g2, fun q hq => by
      rcases List.mem_append.mp hq with z | z
      · exact h5.2.2 q z
      · exact hF _ (hL2 q z)⟩ h6 (ev_lv.mono p1 h7) hexc U' rfl X₂
  exact ⟨tt, hstep₁ _ fun acts => by rw [doInvoke_state]; exact hsteps.trans a1, b1⟩
/-- no handler: the method is left by the throw -/
theorem es_leave {x : Nat} {w1 : List ev_C} (hlocks : meth.locks = false) (hno : c.exceptionTable.toList = [])
    (hQ : ∀ (al : List Nat) (ws : va_W) (H : Heap) (locs : List Loc) (ax : Addr) (t : State), al0 <+: al → ev_w al ex tys w1 ws → va_P D ev_cl ws H → va_D A ws → va_S A s.heap H locs → ev_exc x ax s H → t.heap = H → t.status = .running → Ended t below (.threw ax) → s.WarmedH t.vm → s.sameButNew ({ t with vm := s.vm } : State) locs k n → Q t) :
    ev_TG p l e R s m args below meth c Q D tys A ex al0 nL pc L x w1 k n := by
  intro al ws H locs ls lv rest ax h1 h2 h3 h4 h5 h6 h7 h8 T hT X
  obtain ⟨st, q1, q2, q3, q4⟩ := X.leaveThrown ax (g := F0 m pc ls rest) rfl rfl rfl (fun y hy => by rw [hno] at hy; cases hy) hlocks
  exact ⟨_, st, hQ al ws H locs ax _ h1 h2 h3 h4 h5 h8 hT q1 q2 q3 q4⟩
end EvThrow
