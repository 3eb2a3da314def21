/-! Calls that return: virtual and static ones, of methods with or without handlers -/
section EvCall2
variable {p : Program} {l : Launch} {e : Env} {R : Room} {s : State} {m : MethodId} {args : Array Value} {below : List Frame} {meth : Method} {c : Code} {Q : State → Prop} {D : va_G} {tys : List (ClassId × FieldType)} {A : Nat → Prop} {ex : Nat → Nat} {al0 : List Nat} {nL : Nat} {sc : List ev_V}
variable {pc k n : Nat} {L : List (Nat × ev_V)} {S1 : List ev_V} {w : List ev_C} {cc : ByteArray} {own nm : String}
theorem ev_head_sig {N : ev_N} (h : (ev_head N).before args s = true) {mk : MethodId} {methM : Method} (hn : s.methodNamed? N.1 = some mk) (hm : s.vm.method? mk = some methM) : parseMethodDescriptor N.1.desc = some methM.sig := by
  obtain ⟨y, b, ml, rt, hh, pl⟩ := N
  cases hh with
  | nil =>
    obtain ⟨m1, c1, h1, -, -, -, -, -, -, h2⟩ := Cond.code_spec (x := y) hn h
    cases hm.symm.trans h1
    exact h2
  | cons a t =>
    obtain ⟨mk1, m1, c1, h0, h1, -, -, -, -, -, -, h2⟩ := Cond.codeWith_spec (x := y) h
    cases hn.symm.trans h0
    cases hm.symm.trans h1
    exact h2
theorem ev_head_named {N : ev_N} (h : (ev_head N).before args s = true) : ∃ mk methM, s.methodNamed? N.1 = some mk ∧ s.vm.method? mk = some methM := by
  obtain ⟨y, b, ml, rt, hh, pl⟩ := N
  cases hh with
  | nil =>
    obtain ⟨mk, hn⟩ := Cond.code_named (x := y) h
    obtain ⟨m1, c1, h1, -⟩ := Cond.code_spec (x := y) hn h
    exact ⟨mk, m1, hn, h1⟩
  | cons a t =>
    obtain ⟨mk1, m1, c1, h0, h1, -⟩ := Cond.codeWith_spec (x := y) h
    exact ⟨mk1, m1, h0, h1⟩
theorem ev_back {N : ev_N} {rm : Room} {Pc : Array Value → State → Prop} {Qc : Array Value → State → Outcome → State → Prop} {mc ms : Nat} {free : Addr → Prop} (hM : Met l N.1 (ev_ws N) rm Pc Qc mc ms free) (hbl : FrameBlind Pc) (hts : ∀ w ∈ ev_Ts, w.before args s = true) (hN : ev_head N ∈ ev_Ts) (hini : Cond.initialized N.1.cls ∈ ev_Ts) (hrc : rm.cells = mc) (hrs : rm.slots = ms) (hfr : rm.frames + 1 ≤ R.frames) (hlo : 8 + (N.2.2.1 + 11) + rm.locals ≤ R.locals) :
    Back l R p e below s args N.1 3 8 (PreOf R mc ms Pc) (PostOf Qc mc ms free) := by
  have hws := pay_in hts (ev_good N hN)
  have hin : ∀ a' U, s.WarmedH U.vm → (Cond.initialized N.1.cls).before a' U = true := fun a' U hW => word_at hW (ev_goodT hini).2 (hts _ hini)
  obtain ⟨y, b, ml, rt, hh, pl⟩ := N
  cases hh with
  | nil => exact back_of (bytes := b) (maxL := ml) (ret := rt) hM hbl hrc hrs hfr hlo hws List.mem_cons_self hin
  | cons a t => exact va_backW (hh := a :: t) (bytes := b) (maxL := ml) (ret := rt) hM hbl hrc hrs hfr hlo hws List.mem_cons_self hin
/-- a virtual call -/
theorem es_callV (X : ev_Ctx p R s m args meth c D tys A ex cc own nm nL sc) {N : ev_N} {d idx : Nat} {C : String} {o : ev_V} {as : List ev_V} {rv : Option ev_V} {w1 : List ev_C} {c1 n1 : Nat} (hM : ev_Met l D tys ex N d (o :: as) w rv w1 c1 n1)
    (hd : decode cc pc = .ok (.invokevirtual idx, 3)) (hN : ev_head N ∈ ev_Ts) (hlink : Cond.methodLink own idx N.1 ∈ ev_Ts) (hinst : Cond.instanceMethod N.1 ∈ ev_Ts) (hsel : Cond.selects C N.1 N.1 ∈ ev_Ts) (hini : Cond.initialized N.1.cls ∈ ev_Ts) (hnp : ev_np N.1 as.length)
    (hrecv : ∀ (al : List Nat) (ws : va_W) (H : Heap) (locs : List Loc) (v : Value), ev_w al ex tys w ws → va_P D ev_cl ws H → va_S A s.heap H locs → ev_rel al ex o v → ∃ b, v = .ref b ∧ ∃ cellB : Cell, H[b]? = some cellB ∧ cellB.vm.isStatics = false ∧ s.vm.findClass C = some cellB.cls)
    (hfr : d + 11 ≤ R.frames) (hlo : 8 + (N.2.2.1 + 11) + (60 * d + 200) ≤ R.locals) (hcc : k + c1 ≤ R.cells) (hnn : n + n1 ≤ R.slots) (hS : ev_wds S1 ≤ 8)
    (h : ev_G p l e R s m args below meth c Q D ev_cl tys A ex al0 nL (pc + 3, L, ev_opt rv ++ S1, w1, k + c1, n + n1)) : ev_G p l e R s m args below meth c Q D ev_cl tys A ex al0 nL (pc, L, as.reverse ++ o :: S1, w, k, n) := by
  intro al ws H locs ls lv st h1 h2 h3 h4 h5 h6 h7 h8
  obtain ⟨sa, sb, rfl, g1, g2⟩ := ev_st_split h8
  obtain ⟨vo, rest, rfl, g3, g4⟩ := ev_st_cons g2
  obtain ⟨b, rfl, cellB, hcB, hoB, hclB⟩ := hrecv al ws H locs vo h2 h3 h5 g3
  have g1' := ev_st_rev g1
  rw [List.reverse_reverse] at g1'
  have X' := X
  obtain ⟨hx, hb, hml, hown, hts, hK, hT, hA, hX, -⟩ := X
  have hB : Back l R p e below s args N.1 3 8 (PreOf R c1 n1 (va_Pc (.ref b :: sa.reverse) (ev_Pre D tys ex ws H.size))) (PostOf (ev_Post D tys ex al ws H.size rv w1) c1 n1 (va_A ws H.size)) :=
    ev_back (hM al ws H.size (.ref b :: sa.reverse) h2 ⟨g3, g1'⟩) ev_blind hts hN hini rfl rfl hfr hlo
  obtain ⟨mk, methM, hnamed, hmethM, hstM, habM⟩ := Cond.instanceMethod_spec (hts _ hinst)
  have hsigM := ev_head_sig (hts _ hN) hnamed hmethM
  obtain ⟨c2, r2, m2, q1, q2, q3, q4, kP, hkP, hkPi⟩ := Cond.selects_spec (hts _ hsel)
  cases hclB.symm.trans q1
  cases (State.methodFound?_of_named hnamed ⟨hnp.1, hnp.2.1⟩).symm.trans q2
  cases hnamed.symm.trans q3
  have hlen : ∀ sig, parseMethodDescriptor N.1.desc = some sig → sa.reverse.length = sig.parameters.length := by
    intro sig hsig
    have z := hnp.2.2
    rw [hsig] at z
    rw [← ev_st_len g1']
    exact (Option.some.inj z).symm
  refine es_after X' ?_ h1 h4 h5 h6 h7 g4 h (a := (Value.ref b :: sa.reverse).toArray)
  intro T hT' X''
  have hselP : selectMethod e.platform s.vm cellB.cls mk = .method mk := by rw [Launch.admits_selectMethod X''.admits]; exact q4
  obtain ⟨vm₁, X₁, hstep₁⟩ := X''.invokevirtual hx hown (hts _ hlink) hnamed hmethM hstM hkP hkPi ⟨hnp.1, hnp.2.1⟩ (a := b) (cell := cellB) (by rw [hT']; exact hcB)
    (fun z hz => by rw [hz] at hoB; cases hoB) hselP hmethM habM hkP hkPi (g := F0 m pc ls (sa ++ .ref b :: rest)) rfl (argsL := sa.reverse) (rest := rest) (hlen _ hsigM) (by rw [List.reverse_reverse]) (by rw [hb]; exact hd)
  obtain ⟨v, ⟨U', l2, c2', s2⟩, X₂, ⟨g', mk', t, L', e1, e2, hq, z1, hL, z2, z3⟩, hsteps⟩ := hB m meth c ⟨T.setVm vm₁, locs, k, n⟩ { F0 m pc ls (sa ++ .ref b :: rest) with stack := rest } (.invokevirtual idx) mk (Value.ref b :: sa.reverse).toArray X₁ rfl (h6.1.trans hml.symm) (by rw [hb]; exact hd) (ev_rest_room rfl g4 hS) (X₁.named hnamed) ⟨hcc, hnn, ev_pre_at X' h2 h3 h4 h5 (T.setVm vm₁) hT' X₁.warmed⟩
  dsimp only [Pt.U, Pt.locs, Pt.cells, Pt.slots] at X₂ e1 e2 z1 z2 z3 hsteps
  subst z1; subst z2; subst z3
  exact ⟨v, (T.setVm vm₁).calling g' mk' (Value.ref b :: sa.reverse).toArray, t, U', L', hT', X₂, hL, e1, e2, hq, fun target hh => hstep₁ _ fun acts => by rw [doInvoke_state]; exact hsteps.trans hh⟩
/-- a static call -/
theorem es_callS (X : ev_Ctx p R s m args meth c D tys A ex cc own nm nL sc) {N : ev_N} {d idx : Nat} {as : List ev_V} {rv : Option ev_V} {w1 : List ev_C} {c1 n1 : Nat} (hM : ev_Met l D tys ex N d as w rv w1 c1 n1)
    (hd : decode cc pc = .ok (.invokestatic idx, 3)) (hN : ev_head N ∈ ev_Ts) (hlink : Cond.methodLink own idx N.1 ∈ ev_Ts) (hstat : Cond.static N.1 ∈ ev_Ts) (hini : Cond.initialized N.1.cls ∈ ev_Ts) (hnp : ev_np N.1 as.length)
    (hfr : d + 11 ≤ R.frames) (hlo : 8 + (N.2.2.1 + 11) + (60 * d + 200) ≤ R.locals) (hcc : k + c1 ≤ R.cells) (hnn : n + n1 ≤ R.slots) (hS : ev_wds S1 ≤ 8)
    (h : ev_G p l e R s m args below meth c Q D ev_cl tys A ex al0 nL (pc + 3, L, ev_opt rv ++ S1, w1, k + c1, n + n1)) : ev_G p l e R s m args below meth c Q D ev_cl tys A ex al0 nL (pc, L, as.reverse ++ S1, w, k, n) := by
  intro al ws H locs ls lv st h1 h2 h3 h4 h5 h6 h7 h8
  obtain ⟨sa, rest, rfl, g1, g4⟩ := ev_st_split h8
  have g1' := ev_st_rev g1
  rw [List.reverse_reverse] at g1'
  have X' := X
  obtain ⟨hx, hb, hml, hown, hts, hK, hT, hA, hX, -⟩ := X
  have hB : Back l R p e below s args N.1 3 8 (PreOf R c1 n1 (va_Pc sa.reverse (ev_Pre D tys ex ws H.size))) (PostOf (ev_Post D tys ex al ws H.size rv w1) c1 n1 (va_A ws H.size)) :=
    ev_back (hM al ws H.size sa.reverse h2 g1') ev_blind hts hN hini rfl rfl hfr hlo
  obtain ⟨mk, methM, hnamed, hmethM⟩ := ev_head_named (hts _ hN)
  have hsigM := ev_head_sig (hts _ hN) hnamed hmethM
  have hstatic : methM.isStatic = true := Cond.static_spec hnamed hmethM (hts _ hstat)
  obtain ⟨kP, hkP, -⟩ := className_of_methodNamed hnamed
  have hinitP : kP.init = .initialized := Cond.initialized_spec (findClass_of_methodNamed hnamed) hkP (hts _ hini)
  have hlen : ∀ sig, parseMethodDescriptor N.1.desc = some sig → sa.reverse.length = sig.parameters.length := by
    intro sig hsig
    have z := hnp.2.2
    rw [hsig] at z
    rw [← ev_st_len g1']
    exact (Option.some.inj z).symm
  refine es_after X' ?_ h1 h4 h5 h6 h7 g4 h (a := sa.reverse.toArray)
  intro T hT' X''
  obtain ⟨vm₁, X₁, hstep₁⟩ := X''.invokestatic hx hown (hts _ hlink) hnamed hmethM hstatic hkP hinitP ⟨hnp.1, hnp.2.1⟩ (g := F0 m pc ls (sa ++ rest)) rfl (argsL := sa.reverse) (rest := rest) (hlen _ hsigM) (by rw [List.reverse_reverse]) (by rw [hb]; exact hd)
  obtain ⟨v, ⟨U', l2, c2', s2⟩, X₂, ⟨g', mk', t, L', e1, e2, hq, z1, hL, z2, z3⟩, hsteps⟩ := hB m meth c ⟨T.setVm vm₁, locs, k, n⟩ { F0 m pc ls (sa ++ rest) with stack := rest } (.invokestatic idx) mk sa.reverse.toArray X₁ rfl (h6.1.trans hml.symm) (by rw [hb]; exact hd) (ev_rest_room rfl g4 hS) (X₁.named hnamed) ⟨hcc, hnn, ev_pre_at X' h2 h3 h4 h5 (T.setVm vm₁) hT' X₁.warmed⟩
  dsimp only [Pt.U, Pt.locs, Pt.cells, Pt.slots] at X₂ e1 e2 z1 z2 z3 hsteps
  subst z1; subst z2; subst z3
  exact ⟨v, (T.setVm vm₁).calling g' mk' sa.reverse.toArray, t, U', L', hT', X₂, hL, e1, e2, hq, fun target hh => hstep₁ _ fun acts => by rw [doInvoke_state]; exact hsteps.trans hh⟩
/-- a static call of a nest mate -/
theorem es_callSN (X : ev_Ctx p R s m args meth c D tys A ex cc own nm nL sc) {N : ev_N} {d idx : Nat} {host : String} {as : List ev_V} {rv : Option ev_V} {w1 : List ev_C} {c1 n1 : Nat} (hM : ev_Met l D tys ex N d as w rv w1 c1 n1)
    (hd : decode cc pc = .ok (.invokestatic idx, 3)) (hh : N.2.2.2.2.1 = []) (hN : ev_head N ∈ ev_Ts) (hlink : va_Nw (.methodLinkNest own idx N.1 host) s) (hstat : Cond.static N.1 ∈ ev_Ts) (hini : Cond.initialized N.1.cls ∈ ev_Ts) (hnp : ev_np N.1 as.length)
    (hfr : d + 11 ≤ R.frames) (hlo : 8 + (N.2.2.1 + 11) + (60 * d + 200) ≤ R.locals) (hcc : k + c1 ≤ R.cells) (hnn : n + n1 ≤ R.slots) (hS : ev_wds S1 ≤ 8)
    (h : ev_G p l e R s m args below meth c Q D ev_cl tys A ex al0 nL (pc + 3, L, ev_opt rv ++ S1, w1, k + c1, n + n1)) : ev_G p l e R s m args below meth c Q D ev_cl tys A ex al0 nL (pc, L, as.reverse ++ S1, w, k, n) := by
  intro al ws H locs ls lv st h1 h2 h3 h4 h5 h6 h7 h8
  obtain ⟨sa, rest, rfl, g1, g4⟩ := ev_st_split h8
  have g1' := ev_st_rev g1
  rw [List.reverse_reverse] at g1'
  have X' := X
  obtain ⟨hx, hb, hml, hown, hts, hK, hT, hA, hX, -⟩ := X
  have hhd : ev_head N = .code N.1 N.2.1 N.2.2.1 N.2.2.2.1 := by unfold ev_head; rw [hh]
  refine es_after X' (va_runSN (As := sa.reverse) (rest := rest) (n := as.length) (bytes := N.2.1) (maxL := N.2.2.1) ⟨hx, hb, hml, hown, hts⟩ (hM al ws H.size sa.reverse h2 g1')
    ⟨va_cnB as.length hts (ev_good N hN) (show ev_ws N = Cond.code N.1 N.2.1 N.2.2.1 N.2.2.2.1 :: ev_Ts by rw [← hhd]) rfl rfl hlink (hts _ hini) hnp ⟨hfr, hlo⟩, hts _ hstat, trivial⟩
    ⟨ev_blind, fun U hU hW => ev_pre_at X' h2 h3 h4 h5 U hU hW⟩ rfl (by rw [← ev_st_len g1']) h6.1 (by rw [List.reverse_reverse]) (ev_rest_room rfl g4 hS) hd ⟨hcc, hnn⟩) h1 h4 h5 h6 h7 g4 h
end EvCall2
