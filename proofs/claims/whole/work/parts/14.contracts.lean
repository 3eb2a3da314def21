/-! Contracts that the evaluator gives; a call that returns -/
/-- a method: name, bytes, maxLocals, type of its answer, handlers (from, to, at, entry of the class), the place of its code's word -/
abbrev ev_N : Type := MethodName × ByteArray × Nat × Option FieldType × List (Nat × Nat × Nat × Nat) × Nat
def ev_head (N : ev_N) : Cond :=
  match N.2.2.2.2.1 with
  | [] => .code N.1 N.2.1 N.2.2.1 N.2.2.2.1
  | h :: t => .codeWith N.1 N.2.1 N.2.2.1 N.2.2.2.1 (h :: t)
abbrev ev_ws (N : ev_N) : List Cond := ev_head N :: ev_Ts
def ev_room (d c n : Nat) : Room := { frames := d + 10, cells := c, slots := n, locals := 35 * d + 200 }
def ev_Pre (D : va_G) (tys : List (ClassId × FieldType)) (ex : Nat → Nat) (ws : va_W) (sz : Nat) (U : State) : Prop :=
  U.heap.size = sz ∧ va_P D ev_cl ws U.heap ∧ va_K D ev_cl tys U ∧ va_D (fun _ => True) ws ∧ ev_X ex (va_A ws sz) U U.heap
def ev_ov (al : List Nat) (ex : Nat → Nat) : Option ev_V → Option Value → Prop
  | none, none => True
  | some x, some v => ev_rel al ex x v
  | _, _ => False
def ev_Post (D : va_G) (tys : List (ClassId × FieldType)) (ex : Nat → Nat) (al : List Nat) (ws : va_W) (sz : Nat) (rv : Option ev_V) (w1 : List ev_C) : Array Value → State → Outcome → State → Prop := fun _ st oc t =>
  (∃ (ov : Option Value) (ws1 : va_W) (al1 : List Nat), oc = .returned ov ∧ ev_ov al1 ex rv ov ∧ al <+: al1 ∧ ev_w al1 ex tys w1 ws1 ∧ va_P D ev_cl ws1 t.heap ∧ va_D (va_A ws sz) ws1) ∧ va_F (va_A ws sz) st t
/-- the contract: these arguments, this world; this answer, this world behind it; so many cells and slots; d calls deep -/
def ev_Met (l : Launch) (D : va_G) (tys : List (ClassId × FieldType)) (ex : Nat → Nat) (N : ev_N) (d : Nat) (as : List ev_V) (w : List ev_C) (rv : Option ev_V) (w1 : List ev_C) (c1 n1 : Nat) : Prop :=
  ∀ (al : List Nat) (ws : va_W) (sz : Nat) (vs : List Value), ev_w al ex tys w ws → ev_st al ex as vs → Met l N.1 (ev_ws N) (ev_room d c1 n1) (va_Pc vs (ev_Pre D tys ex ws sz)) (ev_Post D tys ex al ws sz rv w1) c1 n1 (va_A ws sz)
theorem ev_blind {vs : List Value} {D : va_G} {tys : List (ClassId × FieldType)} {ex : Nat → Nat} {ws : va_W} {sz : Nat} : FrameBlind (va_Pc vs (ev_Pre D tys ex ws sz)) := by
  intro a U g mk q
  obtain ⟨q0, q1, qP, qK, qD, qX⟩ := q
  exact ⟨q0, q1, qP, va_K.moved (u := U) (U := U.calling g mk a) (Vm.Alike.refl U.vm) qK, qD, ev_X.same (u := U) rfl qX⟩
section EvCall
variable {p : Program} {l : Launch} {e : Env} {R : Room} {s : State} {m : MethodId} {args : Array Value} {below : List Frame} {meth : Method} {c : Code} {Q : State → Prop} {D : va_G} {tys : List (ClassId × FieldType)} {A : Nat → Prop} {ex : Nat → Nat} {al0 al : List Nat} {nL : Nat} {sc : List ev_V}
variable {pc k n : Nat} {L : List (Nat × ev_V)} {S1 : List ev_V} {w : List ev_C} {cc : ByteArray} {own nm : String} {ws : va_W} {H : Heap} {locs : List Loc} {ls : Array Slot} {lv : List (Nat × Value)}
/-- what a callee asks holds at the call -/
theorem ev_pre_at (X : ev_Ctx p R s m args meth c D tys A ex cc own nm nL sc) (h2 : ev_w al ex tys w ws) (h3 : va_P D ev_cl ws H) (h4 : va_D A ws) (h5 : va_S A s.heap H locs) {vs : List Value} (U : State) (hU : U.heap = H) (hW : s.WarmedH U.vm) : va_Pc vs (ev_Pre D tys ex ws H.size) vs.toArray U := by
  obtain ⟨hx, hb, hml, hown, hts, hK, hT, hA, hX, -⟩ := X
  have hF : ∀ q, va_A ws H.size q → A q := by
    intro q hq
    rcases hq with ⟨k, E, h⟩ | h
    · exact h4.2 k (q, E) h
    · exact hA q (Nat.le_trans h5.1 h)
  refine ⟨rfl, by rw [hU], by rw [hU]; exact h3, va_K.moved hW.alike hK, h4.weaken (fun _ _ _ _ => trivial), ?_⟩
  rw [hU]
  exact ((ev_X.warm hW hX).kept h5.2.1).narrow hF
theorem ev_A_free (hA : ∀ q, s.heap.size ≤ q → A q) (h4 : va_D A ws) (h5 : va_S A s.heap H locs) : ∀ q, va_A ws H.size q → A q := by
  intro q hq
  rcases hq with ⟨k, E, h⟩ | h
  · exact h4.2 k (q, E) h
  · exact hA q (Nat.le_trans h5.1 h)
/-- behind a call that returned -/
theorem es_after {a : Array Value} {st0 rest : List Value} {rv : Option ev_V} {w1 : List ev_C} {c1 n1 : Nat} (X : ev_Ctx p R s m args meth c D tys A ex cc own nm nL sc)
    (hr : va_Run p l e R s m args below meth c H locs k n c1 n1 (F0 m pc ls st0) rest (ev_Post D tys ex al ws H.size rv w1 a) (va_A ws H.size))
    (h1 : al0 <+: al) (h4 : va_D A ws) (h5 : va_S A s.heap H locs) (h6 : lv_has ls nL lv) (h7 : ev_lv al ex L lv) (h8 : ev_st al ex S1 rest)
    (h : ev_G p l e R s m args below meth c Q D ev_cl tys A ex al0 nL (pc + 3, L, ev_opt rv ++ S1, w1, k + c1, n + n1)) : W p l e R s m args below meth c H locs k n Q (F0 m pc ls st0) := by
  obtain ⟨hx, hb, hml, hown, hts, hK, hT, hA, hX, -⟩ := X
  have hF := ev_A_free hA h4 h5
  intro T hT' X'
  obtain ⟨v, st₀, t, T', L', z0, X'', hL, e1, e2, ⟨⟨ov, ws1, al1, hv, q1, q2, q3, q4, q5⟩, hz, hk⟩, st⟩ := hr T hT' X'
  cases hv
  rw [z0] at hz hk
  have hst : ev_st al1 ex (ev_opt rv ++ S1) (v.toList ++ rest) := by
    cases rv with
    | none =>
      cases v with
      | none => exact ev_st.mono q2 h8
      | some v => exact q1.elim
    | some x =>
      cases v with
      | none => exact q1.elim
      | some v => exact ⟨q1, ev_st.mono q2 h8⟩
  obtain ⟨t2, a1, b1⟩ := h al1 ws1 T'.heap (locs ++ L') ls lv (v.toList ++ rest) (h1.trans q2) q3 (by rw [e1]; exact q4) (q5.weaken (fun _ _ _ z => hF _ z))
    ⟨Nat.le_trans h5.1 (by rw [e1]; exact hz), fun q g1 g2 => by rw [e1, hk q (Nat.lt_of_lt_of_le g1 h5.1) (fun z => g2 (hF q z))]; exact h5.2.1 q g1 g2, fun q hq => by
      rcases List.mem_append.mp hq with z | z
      · exact h5.2.2 q z
      · exact hF _ (hL q z)⟩ h6 (ev_lv.mono q2 h7) hst T' rfl X''
  exact ⟨t2, st t2 a1, b1⟩
theorem ev_rest_room {rest : List Value} {g : JFrame} (hg : g.monitorRoom = 0) (h8 : ev_st al ex S1 rest) (h : ev_wds S1 ≤ 8) : 2 * g.monitorRoom + (rest.map fun v => v.category).sum ≤ 8 := by
  rw [hg, ev_wds_sum h8]
  omega
theorem ev_good (N : ev_N) (hN : ev_head N ∈ ev_Ts) : GoodIn ev_Ts (ev_ws N) := by
  intro w hw
  have hm : w ∈ ev_Ts := by
    rcases List.mem_cons.mp hw with rfl | h
    · exact hN
    · exact h
  exact ⟨hm, good_of_word (List.mem_filter.mp hm).2⟩
theorem ev_goodT {w : Cond} (h : w ∈ ev_Ts) : w ∈ ev_Ts ∧ ((w.onTables && w.keeps) = true ∨ ∃ ty, w = .arrayClass ty) := ⟨h, good_of_word (List.mem_filter.mp h).2⟩
/-- what a call asks of the callee's name -/
def ev_np (y : MethodName) (na : Nat) : Prop := y.cls ≠ "java/lang/invoke/MethodHandle" ∧ y.cls ≠ "java/lang/invoke/VarHandle" ∧ (parseMethodDescriptor y.desc).map (fun d => d.parameters.length) = some na
/-- a constructor -/
theorem es_callI (X : ev_Ctx p R s m args meth c D tys A ex cc own nm nL sc) {N : ev_N} {d idx q : Nat} {as : List ev_V} {rv : Option ev_V} {w1 : List ev_C} {c1 n1 : Nat} (hM : ev_Met l D tys ex N d (.inl (.ref q) :: as) w rv w1 c1 n1)
    (hd : decode cc pc = .ok (.invokespecial idx, 3)) (hh : N.2.2.2.2.1 = []) (hret : N.2.2.2.1 = none) (hN : ev_head N ∈ ev_Ts) (hlink : Cond.methodLink own idx N.1 ∈ ev_Ts) (hinst : Cond.instanceMethod N.1 ∈ ev_Ts) (hini : Cond.initialized N.1.cls ∈ ev_Ts) (hy1 : N.1.name = "<init>") (hnp : ev_np N.1 as.length)
    (hfr : d + 11 ≤ R.frames) (hlo : 8 + (N.2.2.1 + 11) + (35 * d + 200) ≤ R.locals) (hcc : k + c1 ≤ R.cells) (hnn : n + n1 ≤ R.slots) (hS : ev_wds S1 ≤ 8)
    (h : ev_G p l e R s m args below meth c Q D ev_cl tys A ex al0 nL (pc + 3, L, ev_opt rv ++ S1, w1, k + c1, n + n1)) : ev_G p l e R s m args below meth c Q D ev_cl tys A ex al0 nL (pc, L, as.reverse ++ .inl (.ref q) :: S1, w, k, n) := by
  intro al ws H locs ls lv st h1 h2 h3 h4 h5 h6 h7 h8
  obtain ⟨sa, sb, rfl, g1, g2⟩ := ev_st_split h8
  obtain ⟨vo, rest, rfl, g3, g4⟩ := ev_st_cons g2
  obtain ⟨b, g5, rfl⟩ := g3
  have g1' := ev_st_rev g1
  rw [List.reverse_reverse] at g1'
  have X' := X
  obtain ⟨hx, hb, hml, hown, hts, hK, hT, hA, hX, -⟩ := X
  have hhd : ev_head N = .code N.1 N.2.1 N.2.2.1 none := by unfold ev_head; rw [hh, hret]
  refine es_after X' (va_runI (As := sa.reverse) (rest := rest) (n := as.length) (bytes := N.2.1) (maxL := N.2.2.1) ⟨hx, hb, hml, hown, hts⟩ (hM al ws H.size (.ref b :: sa.reverse) h2 ⟨⟨b, g5, rfl⟩, g1'⟩)
    (cwI as.length hts (ev_good N hN) (show ev_ws N = Cond.code N.1 N.2.1 N.2.2.1 none :: ev_Ts by rw [← hhd]) rfl rfl (hts _ hini) (hts _ hlink) (hts _ hinst) hy1 hnp ⟨hfr, hlo⟩)
    ⟨ev_blind, fun U hU hW => ev_pre_at X' h2 h3 h4 h5 U hU hW⟩ rfl (by rw [← ev_st_len g1']) h6.1 (by rw [List.reverse_reverse]) (ev_rest_room rfl g4 hS) hd ⟨hcc, hnn⟩) h1 h4 h5 h6 h7 g4 h
/-- a private constructor of a nest mate -/
theorem es_callIN (X : ev_Ctx p R s m args meth c D tys A ex cc own nm nL sc) {N : ev_N} {d idx q : Nat} {host : String} {as : List ev_V} {rv : Option ev_V} {w1 : List ev_C} {c1 n1 : Nat} (hM : ev_Met l D tys ex N d (.inl (.ref q) :: as) w rv w1 c1 n1)
    (hd : decode cc pc = .ok (.invokespecial idx, 3)) (hh : N.2.2.2.2.1 = []) (hret : N.2.2.2.1 = none) (hN : ev_head N ∈ ev_Ts) (hlink : va_Nw (.methodLinkNest own idx N.1 host) s) (hinst : Cond.instanceMethod N.1 ∈ ev_Ts) (hini : Cond.initialized N.1.cls ∈ ev_Ts) (hy1 : N.1.name = "<init>") (hnp : ev_np N.1 as.length)
    (hfr : d + 11 ≤ R.frames) (hlo : 8 + (N.2.2.1 + 11) + (35 * d + 200) ≤ R.locals) (hcc : k + c1 ≤ R.cells) (hnn : n + n1 ≤ R.slots) (hS : ev_wds S1 ≤ 8)
    (h : ev_G p l e R s m args below meth c Q D ev_cl tys A ex al0 nL (pc + 3, L, ev_opt rv ++ S1, w1, k + c1, n + n1)) : ev_G p l e R s m args below meth c Q D ev_cl tys A ex al0 nL (pc, L, as.reverse ++ .inl (.ref q) :: S1, w, k, n) := by
  intro al ws H locs ls lv st h1 h2 h3 h4 h5 h6 h7 h8
  obtain ⟨sa, sb, rfl, g1, g2⟩ := ev_st_split h8
  obtain ⟨vo, rest, rfl, g3, g4⟩ := ev_st_cons g2
  obtain ⟨b, g5, rfl⟩ := g3
  have g1' := ev_st_rev g1
  rw [List.reverse_reverse] at g1'
  have X' := X
  obtain ⟨hx, hb, hml, hown, hts, hK, hT, hA, hX, -⟩ := X
  have hhd : ev_head N = .code N.1 N.2.1 N.2.2.1 none := by unfold ev_head; rw [hh, hret]
  refine es_after X' (va_runIN (As := sa.reverse) (rest := rest) (n := as.length) (bytes := N.2.1) (maxL := N.2.2.1) ⟨hx, hb, hml, hown, hts⟩ (hM al ws H.size (.ref b :: sa.reverse) h2 ⟨⟨b, g5, rfl⟩, g1'⟩)
    ⟨va_cnB as.length hts (ev_good N hN) (show ev_ws N = Cond.code N.1 N.2.1 N.2.2.1 none :: ev_Ts by rw [← hhd]) rfl rfl hlink (hts _ hini) hnp ⟨hfr, hlo⟩, hy1, hts _ hinst⟩
    ⟨ev_blind, fun U hU hW => ev_pre_at X' h2 h3 h4 h5 U hU hW⟩ rfl (by rw [← ev_st_len g1']) h6.1 (by rw [List.reverse_reverse]) (ev_rest_room rfl g4 hS) hd ⟨hcc, hnn⟩) h1 h4 h5 h6 h7 g4 h
end EvCall
