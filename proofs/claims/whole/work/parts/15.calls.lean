/-! Calls that return: virtual and static ones, of methods with or without handlers -/
section EvCall2
variable {p : Program} {l : Launch} {e : Env} {R : Room} {s : State} {m : MethodId} {args : Array Value} {below : List Frame} {meth : Method} {c : Code} {Q : State → Prop} {D : va_G} {tys : List (ClassId × FieldType)} {A : Nat → Prop} {ex : Nat → Nat} {al0 : List Nat} {nL : Nat} {sc : List ev_V}
variable {pc k n : Nat} {L : List (Nat × ev_V)} {S1 : List ev_V} {w : List ev_C} {cc : ByteArray} {own nm : String}
theorem ev_head_sig {N : ev_N} (h : (ev_head N).before args s = true) {mk : MethodId} {methM : Method} (hn : s.methodNamed? N.1 = some mk) (hm : s.vm.method? mk = some methM) : parseMethodDescriptor N.1.desc = some methM.sig := by
  obtain ⟨y, b, ml, rt, hh, pl⟩ := N
  cases hh with
  | nil =>
    obtain ⟨m1, c1, h1, -, -, -, -, -, -, h2⟩ := Cond.code_spec (x := y) hn h
    cases hm.symm.trans h1
    exact h2
  | cons a t =>
    obtain ⟨mk1, m1, c1, h0, h1, -, -, -, -, -, -, h2⟩ := Cond.codeWith_spec (x := y) h
    cases hn.symm.trans h0
    cases hm.symm.trans h1
    exact h2
theorem ev_head_named {N : ev_N} (h : (ev_head N).before args s = true) : ∃ mk methM, s.methodNamed? N.1 = some mk ∧ s.vm.method? mk = some methM := by
  obtain ⟨y, b, ml, rt, hh, pl⟩ := N
  cases hh with
  | nil =>
    obtain ⟨mk, hn⟩ := Cond.code_named (x := y) h
    obtain ⟨m1, c1, h1, -⟩ := Cond.code_spec (x := y) hn h
    exact ⟨mk, m1, hn, h1⟩
  | cons a t =>
    obtain ⟨mk1, m1, c1, h0, h1, -⟩ := Cond.codeWith_spec (x := y) h
    exact ⟨mk1, m1, h0, h1⟩
theorem ev_back {N : ev_N} {rm : Room} {Pc : Array Value → State → Prop} {Qc : Array Value → State → Outcome → State → Prop} {mc ms : Nat} {free : Addr → Prop} (hM : Met l N.1 (ev_ws N) rm Pc Qc mc ms free) (hbl : FrameBlind Pc) (hts : ∀ w ∈ ev_Ts, w.before args s = true) (hN : ev_head N ∈ ev_Ts) (hini : Cond.initialized N.1.cls ∈ ev_Ts) (hrc : rm.cells = mc) (hrs : rm.slots = ms) (hfr : rm.frames + 1 ≤ R.frames) (hlo : 8 + (N.2.2.1 + 11) + rm.locals ≤ R.locals) :
    Back l R p e below s args N.1 3 8 (PreOf R mc ms Pc) (PostOf Qc mc ms free) := by
  have hws := pay_in hts (ev_good N hN)
  have hin : ∀ a' U, s.WarmedH U.vm → (Cond.initialized N.1.cls).before a' U = true := fun a' U hW => word_at hW (ev_goodT hini).2 (hts _ hini)
  obtain ⟨y, b, ml, rt, hh, pl⟩ := N
  cases hh with
  | nil => exact back_of (bytes := b) (maxL := ml) (ret := rt) hM hbl hrc hrs hfr hlo hws List.mem_cons_self hin
  | cons a t => exact va_backW (hh := a :: t) (bytes := b) (maxL := ml) (ret := rt) hM hbl hrc hrs hfr hlo hws List.mem_cons_self hin
/-- which method a virtual call selects: x is what the call names, y what a receiver of class C has -/
def ev_sel (C : String) (x y : MethodName) (s : State) : Prop := ∃ (r0 mk : MethodId) (r methM : Method) (kr kP : Class), s.methodNamed? x = some r0 ∧ s.vm.method? r0 = some r ∧ r.isStatic = false ∧ s.vm.classes[r0.cls]? = some kr ∧ kr.isInterface = false ∧ s.methodNamed? y = some mk ∧ s.vm.method? mk = some methM ∧ methM.isAbstract = false ∧ s.vm.classes[mk.cls]? = some kP ∧ kP.isInterface = false ∧ parseMethodDescriptor x.desc = some r.sig ∧ ∀ cc : ClassId, s.vm.findClass C = some cc → selectMethod {} s.vm cc r0 = .method mk
theorem ev_sel_self {N : ev_N} {C : String} (hN : (ev_head N).before args s = true) (hinst : (Cond.instanceMethod N.1).before args s = true) (hsel : (Cond.selects C N.1 N.1).before args s = true) (hy : N.1.cls ≠ "java/lang/invoke/MethodHandle" ∧ N.1.cls ≠ "java/lang/invoke/VarHandle") : ev_sel C N.1 N.1 s := by
  obtain ⟨mk, methM, hnamed, hmethM, hstM, habM⟩ := Cond.instanceMethod_spec hinst
  have hsigM := ev_head_sig hN hnamed hmethM
  obtain ⟨c2, r2, m2, q1, q2, q3, q4, kP, hkP, hkPi⟩ := Cond.selects_spec hsel
  cases (State.methodFound?_of_named hnamed hy).symm.trans q2
  cases hnamed.symm.trans q3
  exact ⟨mk, mk, methM, methM, kP, kP, hnamed, hmethM, hstM, hkP, hkPi, hnamed, hmethM, habM, hkP, hkPi, hsigM, fun cc hcc => by cases q1.symm.trans hcc; exact q4⟩
theorem ev_sel_over {N1 N : ev_N} {C : String} (hN1 : (ev_head N1).before args s = true) (hinst1 : (Cond.instanceMethod N1.1).before args s = true) (hinst : (Cond.instanceMethod N.1).before args s = true) (hsame : (Cond.sameMethod N1.1.cls N1.1.cls N1.1.name N1.1.desc).before args s = true) (hsel : (Cond.selects C N1.1 N.1).before args s = true) (hy : N1.1.cls ≠ "java/lang/invoke/MethodHandle" ∧ N1.1.cls ≠ "java/lang/invoke/VarHandle") : ev_sel C N1.1 N.1 s := by
  obtain ⟨r0, r, hn0, hr0, hst0, -⟩ := Cond.instanceMethod_spec hinst1
  obtain ⟨mk, methM, hnamed, hmethM, -, habM⟩ := Cond.instanceMethod_spec hinst
  have hsig := ev_head_sig hN1 hn0 hr0
  obtain ⟨c1, ck, r1, z1, z2, z3, -, z5⟩ := Cond.sameMethod_found hsame
  have hcls : c1 = r0.cls := Option.some.inj (z1.symm.trans (findClass_of_methodNamed hn0))
  subst hcls
  obtain ⟨c2, r2, m2, q1, q2, q3, q4, kP, hkP, hkPi⟩ := Cond.selects_spec hsel
  cases (State.methodFound?_of_named hn0 hy).symm.trans q2
  cases hnamed.symm.trans q3
  exact ⟨r0, mk, r, methM, ck, kP, hn0, hr0, hst0, z2, z3, hnamed, hmethM, habM, hkP, hkPi, hsig, fun cc hcc => by cases q1.symm.trans hcc; exact q4⟩
theorem ev_sel_priv {N : ev_N} {C : String} (hN : (ev_head N).before args s = true) (hinst : (Cond.instanceMethod N.1).before args s = true) (hsame : (Cond.sameMethod N.1.cls N.1.cls N.1.name N.1.desc).before args s = true) (hpriv : (Cond.privateMethod N.1).before args s = true) : ev_sel C N.1 N.1 s := by
  obtain ⟨mk, methM, hnamed, hmethM, hstM, habM⟩ := Cond.instanceMethod_spec hinst
  have hsig := ev_head_sig hN hnamed hmethM
  obtain ⟨c1, ck, r1, z1, z2, z3, -, z5⟩ := Cond.sameMethod_found hsame
  have hcls : c1 = mk.cls := Option.some.inj (z1.symm.trans (findClass_of_methodNamed hnamed))
  subst hcls
  exact ⟨mk, mk, methM, methM, ck, ck, hnamed, hmethM, hstM, z2, z3, hnamed, hmethM, habM, z2, z3, hsig, fun cc hcc => selectMethod_private hmethM (Cond.privateMethod_at hpriv mk methM hnamed hmethM)⟩
/-- a virtual call -/
theorem es_callV (X : ev_Ctx p R s m args meth c D tys A ex cc own nm nL sc) {N1 N : ev_N} {d idx : Nat} {C : String} {o : ev_V} {as : List ev_V} {rv : Option ev_V} {w1 : List ev_C} {c1 n1 : Nat} (hM : ev_Met l D tys ex N d (o :: as) w rv w1 c1 n1)
    (hd : decode cc pc = .ok (.invokevirtual idx, 3)) (hN : ev_head N ∈ ev_Ts) (hlink : Cond.methodLink own idx N1.1 ∈ ev_Ts) (hsel : ev_sel C N1.1 N.1 s) (hini : Cond.initialized N.1.cls ∈ ev_Ts) (hnp : ev_np N1.1 as.length)
    (hrecv : ∀ (al : List Nat) (ws : va_W) (H : Heap) (locs : List Loc) (v : Value), ev_w al ex tys w ws → va_P D ev_cl ws H → va_S A s.heap H locs → ev_rel al ex o v → ∃ b, v = .ref b ∧ ∃ cellB : Cell, H[b]? = some cellB ∧ cellB.vm.isStatics = false ∧ s.vm.findClass C = some cellB.cls)
    (hfr : d + 11 ≤ R.frames) (hlo : 8 + (N.2.2.1 + 11) + (35 * d + 200) ≤ R.locals) (hcc : k + c1 ≤ R.cells) (hnn : n + n1 ≤ R.slots) (hS : ev_wds S1 ≤ 8)
    (h : ev_G p l e R s m args below meth c Q D ev_cl tys A ex al0 nL (pc + 3, L, ev_opt rv ++ S1, w1, k + c1, n + n1)) : ev_G p l e R s m args below meth c Q D ev_cl tys A ex al0 nL (pc, L, as.reverse ++ o :: S1, w, k, n) := by
  intro al ws H locs ls lv st h1 h2 h3 h4 h5 h6 h7 h8
  obtain ⟨sa, sb, rfl, g1, g2⟩ := ev_st_split h8
  obtain ⟨vo, rest, rfl, g3, g4⟩ := ev_st_cons g2
  obtain ⟨b, rfl, cellB, hcB, hoB, hclB⟩ := hrecv al ws H locs vo h2 h3 h5 g3
  have g1' := ev_st_rev g1
  rw [List.reverse_reverse] at g1'
  have X' := X
  obtain ⟨hx, hb, hml, hown, hts, hK, hT, hA, hX, -⟩ := X
  have hB : Back l R p e below s args N.1 3 8 (PreOf R c1 n1 (va_Pc (.ref b :: sa.reverse) (ev_Pre D tys ex ws H.size))) (PostOf (ev_Post D tys ex al ws H.size rv w1) c1 n1 (va_A ws H.size)) :=
    ev_back (hM al ws H.size (.ref b :: sa.reverse) h2 ⟨g3, g1'⟩) ev_blind hts hN hini rfl rfl hfr hlo
  obtain ⟨r0, mk, rM, methM, kr, kP, hn0, hrm0, hst0, hkr, hkri, hnamed, hmethM, habM, hkP, hkPi, hsigM, q4⟩ := hsel
  have q4 := q4 _ hclB
  have hlen : ∀ sig, parseMethodDescriptor N1.1.desc = some sig → sa.reverse.length = sig.parameters.length := by
    intro sig hsig
    have z := hnp.2.2
    rw [hsig] at z
    rw [← ev_st_len g1']
    exact (Option.some.inj z).symm
  refine es_after X' ?_ h1 h4 h5 h6 h7 g4 h (a := (Value.ref b :: sa.reverse).toArray)
  intro T hT' X''
  have hselP : selectMethod e.platform s.vm cellB.cls r0 = .method mk := by rw [Launch.admits_selectMethod X''.admits]; exact q4
  obtain ⟨vm₁, X₁, hstep₁⟩ := X''.invokevirtual hx hown (hts _ hlink) hn0 hrm0 hst0 hkr hkri ⟨hnp.1, hnp.2.1⟩ (a := b) (cell := cellB) (by rw [hT']; exact hcB)
    (fun z hz => by rw [hz] at hoB; cases hoB) hselP hmethM habM hkP hkPi (g := F0 m pc ls (sa ++ .ref b :: rest)) rfl (argsL := sa.reverse) (rest := rest) (hlen _ hsigM) (by rw [List.reverse_reverse]) (by rw [hb]; exact hd)
  obtain ⟨v, ⟨U', l2, c2', s2⟩, X₂, ⟨g', mk', t, L', e1, e2, hq, z1, hL, z2, z3⟩, hsteps⟩ := hB m meth c ⟨T.setVm vm₁, locs, k, n⟩ { F0 m pc ls (sa ++ .ref b :: rest) with stack := rest } (.invokevirtual idx) mk (Value.ref b :: sa.reverse).toArray X₁ rfl (h6.1.trans hml.symm) (by rw [hb]; exact hd) (ev_rest_room rfl g4 hS) (X₁.named hnamed) ⟨hcc, hnn, ev_pre_at X' h2 h3 h4 h5 (T.setVm vm₁) hT' X₁.warmed⟩
  dsimp only [Pt.U, Pt.locs, Pt.cells, Pt.slots] at X₂ e1 e2 z1 z2 z3 hsteps
  subst z1; subst z2; subst z3
  exact ⟨v, (T.setVm vm₁).calling g' mk' (Value.ref b :: sa.reverse).toArray, t, U', L', hT', X₂, hL, e1, e2, hq, fun target hh => hstep₁ _ fun acts => by rw [doInvoke_state]; exact hsteps.trans hh⟩
/-- the cell of a reference -/
theorem ev_cell_rec (hK : va_K D ev_cl tys s) {al : List Nat} {ws : va_W} {H : Heap} (h2 : ev_w al ex tys w ws) (h3 : va_P D ev_cl ws H) {q b : Nat} (hq : al[q]? = some b) : ∃ (cellB : Cell) (kB : Class), H[b]? = some cellB ∧ cellB.vm.isStatics = false ∧ s.vm.classes[cellB.cls]? = some kB := by
  have hlt : q < w.length := by
    have := (List.getElem?_eq_some_iff.mp hq).1
    rw [← h2.1, List.length_map, ← h2.2.1] at this
    exact this
  have hx : w[q]? = some (w[q]) := List.getElem?_eq_getElem hlt
  generalize w[q] = x at hx
  obtain ⟨E, g3, g4⟩ := ev_w_get h2 hx hq
  rcases x with (⟨ci, fs⟩ | ⟨t, N, d, wr⟩)
  · obtain ⟨vs, rfl, -⟩ := g4
    obtain ⟨r, hr1, -⟩ := h3 q _ g3
    obtain ⟨cell, z1, z2, z3⟩ := va_recv hK h3 hr1 g3
    obtain ⟨kB, hkB, -⟩ := Vm.findClass_spec z3
    exact ⟨cell, kB, z1, z2, hkB⟩
  · obtain ⟨cA, ty, j4, hE⟩ := g4
    have hE' : ∃ x : vp_A, E = .inl (cA, x) := by
      unfold ev_arr at hE
      split at hE
      all_goals (obtain ⟨f, rfl, -⟩ := hE; exact ⟨_, rfl⟩)
    obtain ⟨x, rfl⟩ := hE'
    obtain ⟨-, kA, hkA, -⟩ := (hK.2 t _ j4).1 0 (fun _ => .null)
    have hc : (vp_cell cA x).vm.isStatics = false ∧ (vp_cell cA x).cls = cA := by
      obtain ⟨n, f | f | f | f | f⟩ := x <;> exact ⟨rfl, rfl⟩
    exact ⟨_, kA, h3 q _ g3, hc.1, by rw [hc.2]; exact hkA⟩
/-- a call of the superclass's own method -/
theorem es_callSU (X : ev_Ctx p R s m args meth c D tys A ex cc own nm nL sc) {N : ev_N} {d idx q : Nat} {as : List ev_V} {rv : Option ev_V} {w1 : List ev_C} {c1 n1 : Nat} (hM : ev_Met l D tys ex N d (.inl (.ref q) :: as) w rv w1 c1 n1)
    (hd : decode cc pc = .ok (.invokespecial idx, 3)) (hh : N.2.2.2.2.1 = []) (hN : ev_head N ∈ ev_Ts) (hlink : Cond.methodLink own idx N.1 ∈ ev_Ts) (hinst : Cond.instanceMethod N.1 ∈ ev_Ts) (hini : Cond.initialized N.1.cls ∈ ev_Ts) (hsame : Cond.sameMethod N.1.cls N.1.cls N.1.name N.1.desc ∈ ev_Ts) (hsup : Cond.superclass own N.1.cls ∈ ev_Ts) (hno : N.1.name ≠ "<init>") (hnp : ev_np N.1 as.length)
    (hfr : d + 11 ≤ R.frames) (hlo : 8 + (N.2.2.1 + 11) + (35 * d + 200) ≤ R.locals) (hcc : k + c1 ≤ R.cells) (hnn : n + n1 ≤ R.slots) (hS : ev_wds S1 ≤ 8)
    (h : ev_G p l e R s m args below meth c Q D ev_cl tys A ex al0 nL (pc + 3, L, ev_opt rv ++ S1, w1, k + c1, n + n1)) : ev_G p l e R s m args below meth c Q D ev_cl tys A ex al0 nL (pc, L, as.reverse ++ .inl (.ref q) :: S1, w, k, n) := by
  intro al ws H locs ls lv st h1 h2 h3 h4 h5 h6 h7 h8
  obtain ⟨sa, sb, rfl, g1, g2⟩ := ev_st_split h8
  obtain ⟨vo, rest, rfl, g3, g4⟩ := ev_st_cons g2
  obtain ⟨b, g5, rfl⟩ := g3
  have g1' := ev_st_rev g1
  rw [List.reverse_reverse] at g1'
  have X' := X
  obtain ⟨hx, hb, hml, hown, hts, hK, hT, hA, hX, -⟩ := X
  obtain ⟨cellB, kB, hcB, hoB, hkB⟩ := ev_cell_rec hK h2 h3 g5
  have hhd : ev_head N = .code N.1 N.2.1 N.2.2.1 N.2.2.2.1 := by unfold ev_head; rw [hh]
  have hcode : (Cond.code N.1 N.2.1 N.2.2.1 N.2.2.2.1).before args s = true := by rw [← hhd]; exact hts _ hN
  have hB : Back l R p e below s args N.1 3 8 (PreOf R c1 n1 (va_Pc (.ref b :: sa.reverse) (ev_Pre D tys ex ws H.size))) (PostOf (ev_Post D tys ex al ws H.size rv w1) c1 n1 (va_A ws H.size)) :=
    ev_back (hM al ws H.size (.ref b :: sa.reverse) h2 ⟨⟨b, g5, rfl⟩, g1'⟩) ev_blind hts hN hini rfl rfl hfr hlo
  have hlen : ∀ sig, parseMethodDescriptor N.1.desc = some sig → sa.reverse.length = sig.parameters.length := by
    intro sig hsig
    have z := hnp.2.2
    rw [hsig] at z
    rw [← ev_st_len g1']
    exact (Option.some.inj z).symm
  refine es_after X' ?_ h1 h4 h5 h6 h7 g4 h (a := (Value.ref b :: sa.reverse).toArray)
  intro T hT' X''
  obtain ⟨v, vm₁, ⟨U', l2, c2', s2⟩, hW₁, X₂, ⟨g', mk', t, L', e1, e2, hq, z1, hL, z2, z3⟩, hsteps⟩ := va_callSU X'' hx hown (hts _ hlink) (hts _ hsame) (hts _ hsup) (hts _ hinst) hcode hno hB (b := b) (cellB := cellB) (kB := kB) (by rw [hT']; exact hcB) hoB hkB (g := F0 m pc ls (sa ++ .ref b :: rest)) rfl (h6.1.trans hml.symm) (argsL := sa.reverse) (rest := rest) hlen (by rw [List.reverse_reverse]) (ev_rest_room rfl g4 hS) (by rw [hb]; exact hd) (fun vm₁ hW => ⟨hcc, hnn, ev_pre_at X' h2 h3 h4 h5 (T.setVm vm₁) hT' hW⟩)
  dsimp only [Pt.U, Pt.locs, Pt.cells, Pt.slots] at X₂ e1 e2 z1 z2 z3 hsteps
  subst z1; subst z2; subst z3
  exact ⟨v, (T.setVm vm₁).calling g' mk' (Value.ref b :: sa.reverse).toArray, t, U', L', hT', X₂, hL, e1, e2, hq, hsteps⟩
/-- a static call -/
theorem es_callS (X : ev_Ctx p R s m args meth c D tys A ex cc own nm nL sc) {N : ev_N} {d idx : Nat} {as : List ev_V} {rv : Option ev_V} {w1 : List ev_C} {c1 n1 : Nat} (hM : ev_Met l D tys ex N d as w rv w1 c1 n1)
    (hd : decode cc pc = .ok (.invokestatic idx, 3)) (hN : ev_head N ∈ ev_Ts) (hlink : Cond.methodLink own idx N.1 ∈ ev_Ts) (hstat : Cond.static N.1 ∈ ev_Ts) (hini : Cond.initialized N.1.cls ∈ ev_Ts) (hnp : ev_np N.1 as.length)
    (hfr : d + 11 ≤ R.frames) (hlo : 8 + (N.2.2.1 + 11) + (35 * d + 200) ≤ R.locals) (hcc : k + c1 ≤ R.cells) (hnn : n + n1 ≤ R.slots) (hS : ev_wds S1 ≤ 8)
    (h : ev_G p l e R s m args below meth c Q D ev_cl tys A ex al0 nL (pc + 3, L, ev_opt rv ++ S1, w1, k + c1, n + n1)) : ev_G p l e R s m args below meth c Q D ev_cl tys A ex al0 nL (pc, L, as.reverse ++ S1, w, k, n) := by
  intro al ws H locs ls lv st h1 h2 h3 h4 h5 h6 h7 h8
  obtain ⟨sa, rest, rfl, g1, g4⟩ := ev_st_split h8
  have g1' := ev_st_rev g1
  rw [List.reverse_reverse] at g1'
  have X' := X
  obtain ⟨hx, hb, hml, hown, hts, hK, hT, hA, hX, -⟩ := X
  have hB : Back l R p e below s args N.1 3 8 (PreOf R c1 n1 (va_Pc sa.reverse (ev_Pre D tys ex ws H.size))) (PostOf (ev_Post D tys ex al ws H.size rv w1) c1 n1 (va_A ws H.size)) :=
    ev_back (hM al ws H.size sa.reverse h2 g1') ev_blind hts hN hini rfl rfl hfr hlo
  obtain ⟨mk, methM, hnamed, hmethM⟩ := ev_head_named (hts _ hN)
  have hsigM := ev_head_sig (hts _ hN) hnamed hmethM
  have hstatic : methM.isStatic = true := Cond.static_spec hnamed hmethM (hts _ hstat)
  obtain ⟨kP, hkP, -⟩ := className_of_methodNamed hnamed
  have hinitP : kP.init = .initialized := Cond.initialized_spec (findClass_of_methodNamed hnamed) hkP (hts _ hini)
  have hlen : ∀ sig, parseMethodDescriptor N.1.desc = some sig → sa.reverse.length = sig.parameters.length := by
    intro sig hsig
    have z := hnp.2.2
    rw [hsig] at z
    rw [← ev_st_len g1']
    exact (Option.some.inj z).symm
  refine es_after X' ?_ h1 h4 h5 h6 h7 g4 h (a := sa.reverse.toArray)
  intro T hT' X''
  obtain ⟨vm₁, X₁, hstep₁⟩ := X''.invokestatic hx hown (hts _ hlink) hnamed hmethM hstatic hkP hinitP ⟨hnp.1, hnp.2.1⟩ (g := F0 m pc ls (sa ++ rest)) rfl (argsL := sa.reverse) (rest := rest) (hlen _ hsigM) (by rw [List.reverse_reverse]) (by rw [hb]; exact hd)
  obtain ⟨v, ⟨U', l2, c2', s2⟩, X₂, ⟨g', mk', t, L', e1, e2, hq, z1, hL, z2, z3⟩, hsteps⟩ := hB m meth c ⟨T.setVm vm₁, locs, k, n⟩ { F0 m pc ls (sa ++ rest) with stack := rest } (.invokestatic idx) mk sa.reverse.toArray X₁ rfl (h6.1.trans hml.symm) (by rw [hb]; exact hd) (ev_rest_room rfl g4 hS) (X₁.named hnamed) ⟨hcc, hnn, ev_pre_at X' h2 h3 h4 h5 (T.setVm vm₁) hT' X₁.warmed⟩
  dsimp only [Pt.U, Pt.locs, Pt.cells, Pt.slots] at X₂ e1 e2 z1 z2 z3 hsteps
  subst z1; subst z2; subst z3
  exact ⟨v, (T.setVm vm₁).calling g' mk' sa.reverse.toArray, t, U', L', hT', X₂, hL, e1, e2, hq, fun target hh => hstep₁ _ fun acts => by rw [doInvoke_state]; exact hsteps.trans hh⟩
/-- a static call of a nest mate -/
theorem es_callSN (X : ev_Ctx p R s m args meth c D tys A ex cc own nm nL sc) {N : ev_N} {d idx : Nat} {host : String} {as : List ev_V} {rv : Option ev_V} {w1 : List ev_C} {c1 n1 : Nat} (hM : ev_Met l D tys ex N d as w rv w1 c1 n1)
    (hd : decode cc pc = .ok (.invokestatic idx, 3)) (hh : N.2.2.2.2.1 = []) (hN : ev_head N ∈ ev_Ts) (hlink : va_Nw (.methodLinkNest own idx N.1 host) s) (hstat : Cond.static N.1 ∈ ev_Ts) (hini : Cond.initialized N.1.cls ∈ ev_Ts) (hnp : ev_np N.1 as.length)
    (hfr : d + 11 ≤ R.frames) (hlo : 8 + (N.2.2.1 + 11) + (35 * d + 200) ≤ R.locals) (hcc : k + c1 ≤ R.cells) (hnn : n + n1 ≤ R.slots) (hS : ev_wds S1 ≤ 8)
    (h : ev_G p l e R s m args below meth c Q D ev_cl tys A ex al0 nL (pc + 3, L, ev_opt rv ++ S1, w1, k + c1, n + n1)) : ev_G p l e R s m args below meth c Q D ev_cl tys A ex al0 nL (pc, L, as.reverse ++ S1, w, k, n) := by
  intro al ws H locs ls lv st h1 h2 h3 h4 h5 h6 h7 h8
  obtain ⟨sa, rest, rfl, g1, g4⟩ := ev_st_split h8
  have g1' := ev_st_rev g1
  rw [List.reverse_reverse] at g1'
  have X' := X
  obtain ⟨hx, hb, hml, hown, hts, hK, hT, hA, hX, -⟩ := X
  have hhd : ev_head N = .code N.1 N.2.1 N.2.2.1 N.2.2.2.1 := by unfold ev_head; rw [hh]
  refine es_after X' (va_runSN (As := sa.reverse) (rest := rest) (n := as.length) (bytes := N.2.1) (maxL := N.2.2.1) ⟨hx, hb, hml, hown, hts⟩ (hM al ws H.size sa.reverse h2 g1')
    ⟨va_cnB as.length hts (ev_good N hN) (show ev_ws N = Cond.code N.1 N.2.1 N.2.2.1 N.2.2.2.1 :: ev_Ts by rw [← hhd]) rfl rfl hlink (hts _ hini) hnp ⟨hfr, hlo⟩, hts _ hstat, trivial⟩
    ⟨ev_blind, fun U hU hW => ev_pre_at X' h2 h3 h4 h5 U hU hW⟩ rfl (by rw [← ev_st_len g1']) h6.1 (by rw [List.reverse_reverse]) (ev_rest_room rfl g4 hS) hd ⟨hcc, hnn⟩) h1 h4 h5 h6 h7 g4 h
end EvCall2
