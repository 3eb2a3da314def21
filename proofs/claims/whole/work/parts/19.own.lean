/-! 'throw new E()': the walk begins anew at its own state, so that nothing but the new object is changed -/
section EvOwn
variable {p : Program} {l : Launch} {e : Env} {R : Room} {s : State} {m : MethodId} {args : Array Value} {below : List Frame} {meth : Method} {c : Code} {T : State} {locs : List Loc} {cells slots : Nat}
theorem ev_rebase (X : Stand p l e R s m args below meth c T locs cells slots) (hc : cells ≤ R.cells) (hs : slots ≤ R.slots) :
    Stand p l e { frames := R.frames, cells := R.cells - cells, slots := R.slots - slots, locals := R.locals } (T.setFrames (.invoking m args :: below)) m args below meth c T [] 0 0 := by
  obtain ⟨g₀, hfr⟩ := X.frames_eq
  have hcur : T.cur < T.threads.size := State.cur_lt_of_frames hfr
  have hf' : (T.setFrames (.invoking m args :: below)).frames = .invoking m args :: below := State.frames_setFrames _ hcur
  have hm' : (T.setFrames (.invoking m args :: below)).vm.method? m = some meth := X.method'
  refine ⟨X.admits, X.cas, X.clock, hf', ?_, ?_, hm', X.code, X.here, X.tail, State.WarmedH.refl _, by rw [State.stackLimits_setFrames], by rw [State.stackBytes_setFrames], ?_⟩
  · have h := X.room
    simp only [State.hasRoom, Bool.and_eq_true, decide_eq_true_eq] at h ⊢
    rw [State.localsInUse_invoking X.frames X.method X.code, X.frames] at h
    rw [State.localsInUse_invoking hf' hm' X.code, hf', State.stackLimits_setFrames, State.stackBytes_setFrames, X.limits, X.bytes]
    have h1 := X.heapSize
    have h2 := X.used
    obtain ⟨⟨⟨⟨q1, q2⟩, q3⟩, q4⟩, q5⟩ := h
    refine ⟨⟨⟨⟨q1, q2⟩, ?_⟩, ?_⟩, X.book⟩
    · show T.heap.size + (R.cells - cells) ≤ _
      omega
    · show T.slotsUsed + (R.slots - slots) ≤ _
      omega
  · have h := X.hears
    unfold State.hears at h ⊢
    have hal := X.warmed.alike
    split at h
    · rename_i g r
      rw [State.code?_eq] at h ⊢
      have z : (T.setFrames (.invoking m args :: .java g :: r)).vm.method? g.method = s.vm.method? g.method := hal.method? _
      rw [z]
      exact h
    · rfl
    · rfl
    · rw [hm']
      rw [X.method] at h
      exact h
  · obtain ⟨t, ht, -⟩ := State.frames_cons hf'
    have h := (State.sameButNew.refl (T.setFrames (.invoking m args :: below)) ht).setFrames T.frames (State.cur_lt_of_frames hf')
    rw [State.setFrames_setFrames] at h
    obtain ⟨t', ht', -⟩ := State.frames_cons hfr
    rw [State.setFrames_self ht'] at h
    exact h
theorem ev_same_nil {a b : State} {k n : Nat} (h : a.sameButNew b [] k n) : ∀ q : Nat, q < a.heap.size → b.heap[q]? = a.heap[q]? := by
  intro q hq
  obtain ⟨-, -, -, -, -, h6⟩ := h
  have hc : a.heap[q]? = some a.heap[q] := Array.getElem?_eq_getElem hq
  obtain ⟨c', z1, z2, z3, z4⟩ := h6 q _ hc
  rw [z1, hc]
  congr 1
  rw [z2]
  have e : c'.slots = a.heap[q].slots := by
    apply Array.ext_getElem?
    intro i
    exact z4 i (by simp)
  rw [e]
end EvOwn
/-- the chain of constructors above the four classes -/
def ev_chain : List String := ["java/lang/RuntimeException", "java/lang/Exception"]
def ev_ref1 : Cond := .isRef (.static "java/lang/Throwable" "UNASSIGNED_STACK" "[Ljava/lang/StackTraceElement;")
def ev_ref2 : Cond := .isRef (.static "java/lang/Throwable" "SUPPRESSED_SENTINEL" "Ljava/util/List;")
def ev_lay1 : Cond := .laysStatic "java/lang/Throwable" "UNASSIGNED_STACK" "[Ljava/lang/StackTraceElement;"
def ev_lay2 : Cond := .laysStatic "java/lang/Throwable" "SUPPRESSED_SENTINEL" "Ljava/util/List;"
/-- the words of 'new E()' in a method of class own: in the tables, or one of five, or a declaration -/
def ev_atoms (own : String) (ic x : Nat) : Prop := ∀ w ∈ Bundle.ownAtoms0 own ic (ev_xn x) ev_chain, w ∈ ev_Ts ∨ w = .castable (ev_xn x) (ev_xn x) ∨ w = ev_ref1 ∨ w = ev_ref2 ∨ w = ev_lay1 ∨ w = ev_lay2 ∨ (w ∈ lw_tbl ∧ ∃ y, w = .declares y)
theorem ev_isRef {C n d : String} {A : Nat → Prop} {U : State} {args : Array Value} (h : va_Zq C n d A U U.heap) : (Cond.isRef (.static C n d)).before args U = true := by
  have key : ∀ v : Value, v.isRef = true → va_Z C n d v A U U.heap → (Cond.isRef (.static C n d)).before args U = true := by
    intro v hv hz
    obtain ⟨cf, kf, fi, f, a, cell, g1, g2, g3, g4, g5, g6, g7, g8⟩ := hz
    simp [Cond.before, Cond.holds, Cond.value, Term.eval, State.fieldNamed?, g1, g2, g4, g5, g6, g7]
    cases v <;> first | rfl | (simp [Value.isRef] at hv; done)
  rcases h with h | ⟨t, h⟩
  · exact key _ rfl h
  · exact key _ rfl h
section EvNewThrow
variable {p : Program} {l : Launch} {e : Env} {R : Room} {s : State} {m : MethodId} {args : Array Value} {below : List Frame} {meth : Method} {c : Code} {Q : State → Prop} {D : va_G} {tys : List (ClassId × FieldType)} {A : Nat → Prop} {ex : Nat → Nat} {al0 : List Nat} {nL : Nat} {sc : List ev_V}
variable {pc k n : Nat} {L : List (Nat × ev_V)} {S : List ev_V} {w : List ev_C} {cc : ByteArray} {own nm : String}
theorem ev_xn_fit (x : Nat) : Bundle.fit (ev_xn x) = true := by
  match x with
  | 0 => decide +kernel
  | 1 => decide +kernel
  | 2 => decide +kernel
  | _ + 3 => show Bundle.fit "java/lang/IndexOutOfBoundsException" = true; decide +kernel
theorem es_throw (X : ev_Ctx p R s m args meth c D tys A ex cc own nm nL sc) {x idx ic : Nat} (htr : e.platform.stackTraces = false) (hlocks : meth.locks = false) (hno : c.exceptionTable.toList = []) (hd0 : decode cc pc = .ok (.new idx, 3)) (hd3 : decode cc (pc + 3) = .ok (.dup, 1)) (hd4 : decode cc (pc + 4) = .ok (.invokespecial ic, 3)) (hd7 : decode cc (pc + 7) = .ok (.athrow, 1))
    (hlink : Cond.classLink own idx (ev_xn x) ∈ ev_Ts) (hins : Cond.instantiable (ev_xn x) 6 ∈ ev_Ts) (hini : Cond.initialized (ev_xn x) ∈ ev_Ts) (hat : ev_atoms own ic x) (hcast : Cond.castable (ev_xn x) (ev_xn x) ∈ lw_tbl) (hfr : 6 ≤ R.frames) (hlo : 200 ≤ R.locals) (hcc : k + 1 ≤ R.cells) (hnn : n + 6 ≤ R.slots) (hS : S.length ≤ 3)
    (hQ : ∀ (al : List Nat) (ws : va_W) (H : Heap) (locs : List Loc) (ax : Addr) (t : State), al0 <+: al → ev_w al ex tys w ws → va_P D ev_cl ws H → va_D A ws → va_S A s.heap H locs → ev_exc x ax s H → t.heap = H → t.status = .running → Ended t below (.threw ax) → s.WarmedH t.vm → s.sameButNew ({ t with vm := s.vm } : State) locs (k + 1) (n + 6) → Q t) :
    ev_G p l e R s m args below meth c Q D ev_cl tys A ex al0 nL (pc, L, S, w, k, n) := by
  intro al ws H locs ls lv st h1 h2 h3 h4 h5 h6 h7 h8 T hT XX
  obtain ⟨hx, hb, hml, hown, hts, hK, hTy, hA, hX, -⟩ := X
  have XR := ev_rebase (cells := k) (slots := n) XX (by omega) (by omega)
  have hWT : s.WarmedH (T.setFrames (.invoking m args :: below)).vm := XX.warmed
  have hts' : ∀ w ∈ ev_Ts, w.before args (T.setFrames (.invoking m args :: below)) = true := fun w hw => word_at hWT (ev_goodT hw).2 (hts w hw)
  have hown' : (T.setFrames (.invoking m args :: below)).vm.findClass own = some m.cls := by rw [hWT.alike.findClass]; exact hown
  have hX' : ev_X ex A (T.setFrames (.invoking m args :: below)) (T.setFrames (.invoking m args :: below)).heap := by
    have z : (T.setFrames (.invoking m args :: below)).heap = H := hT
    rw [z]
    exact (ev_X.warm hWT hX).kept h5.2.1
  have hcats : ∀ w ∈ Bundle.ownAtoms0 own ic (ev_xn x) ev_chain, w.before args (T.setFrames (.invoking m args :: below)) = true := by
    intro w hw
    rcases hat w hw with z | rfl | rfl | rfl | rfl | rfl | ⟨z, y, rfl⟩
    · exact hts' w z
    · exact va_Nw.use rfl (hX'.1 _ hcast rfl)
    · exact ev_isRef hX'.2.2.2.2.2.2.2.1.1
    · exact ev_isRef hX'.2.2.2.2.2.2.2.2.1.1
    · exact hX'.2.2.2.2.2.2.2.1.2.lays
    · exact hX'.2.2.2.2.2.2.2.2.1.2.lays
    · exact va_Nw.use rfl (hX'.1 _ z rfl)
  have key : W p l e { frames := R.frames, cells := R.cells - k, slots := R.slots - n, locals := R.locals } (T.setFrames (.invoking m args :: below)) m args below meth c H [] 0 0 Q (F0 m pc ls st) := by
    refine W.newc hx hb hown' (hts' _ hlink) (hts' _ hins) (hts' _ hini) rfl hd0 (by show 0 + 1 ≤ R.cells - k; omega) (by show 0 + 6 ≤ R.slots - n; omega) fun cC kC f1 f2 f3 f4 => ?_
    refine lv_dup hx hb hd3 rfl ?_
    intro T2 hT2 X2
    have hcell : T2.heap[H.size]? = some (freshCell cC kC) := by rw [hT2]; simp
    have hsz : (T.setFrames (.invoking m args :: below)).heap.size = H.size := by
      have z : (T.setFrames (.invoking m args :: below)).heap = H := hT
      rw [z]
    have hst : ((Value.ref H.size :: st).map fun v => v.category).sum ≤ 9 := by
      have hl : st.length ≤ 3 := by rw [← ev_st_len h8]; exact hS
      have kk : ∀ (r : List Value), (r.map fun v => v.category).sum ≤ 2 * r.length := by
        intro r
        induction r with
        | nil => simp
        | cons v r ih =>
          have := lv_cat v
          simp only [List.map_cons, List.sum_cons, List.length_cons]
          omega
      have := kk (Value.ref H.size :: st)
      simp only [List.length_cons] at this
      omega
    obtain ⟨U, st1, u1, u2, u3, u4, ce, u5, u6⟩ := X2.ctorThrow0 hx htr (own := own) (cls := ev_xn x) (names := ev_chain) (ic := ic) hown' (ev_xn_fit x) (by decide +kernel) hcats (fun _ hq => by cases hq) f1 f2 hcell (by rw [hsz]; exact Nat.le_refl _)
      (g := F0 m (pc + 3 + 1) ls (.ref H.size :: .ref H.size :: st)) rfl (h6.1.trans hml.symm) rfl rfl (rest := st) rfl (by rw [hb]; exact hd4) (by rw [hb]; exact hd7) (fun y hy => by rw [hno] at hy; cases hy) (by show 2 + 3 < R.frames; omega) (by show 2 * 0 + _ + (13 * (2 + 1) + 41) ≤ R.locals; omega) hlocks
    have hsame : ∀ q : Nat, q < H.size → U.heap[q]? = H[q]? := by
      intro q hq
      have z := ev_same_nil u4 q (by rw [hsz]; exact hq)
      have z2 : (T.setFrames (.invoking m args :: below)).heap = H := hT
      rw [z2] at z
      exact z
    have hsU : H.size ≤ U.heap.size := by
      have z := u4.2.1
      rw [hsz] at z
      exact z
    refine ⟨U, st1, hQ al ws U.heap locs H.size U h1 h2 (h3.kept fun k x hx => hsame x.1 ((h3 k x hx).lt)) h4 ⟨Nat.le_trans h5.1 hsU, fun q g1 g2 => (hsame q (Nat.lt_of_lt_of_le g1 h5.1)).trans (h5.2.1 q g1 g2), h5.2.2⟩ ⟨ce, u5, by rw [u6.vm]; rfl, ?_⟩ rfl u1 u2 (State.WarmedH.trans XX.warmed u3) ?_⟩
    · have z := u6.cls
      have z2 : (T.setFrames (.invoking m args :: below)).vm.findClass (ev_xn x) = some ce.cls := z
      rw [hWT.alike.findClass] at z2
      exact z2
    · obtain ⟨e1, e2, e3, e4, e5, e6⟩ := u4
      have hTU : T.sameButNew (U.setVm T.vm) [] 1 6 := by
        refine ⟨?_, e2, e3, e4, e5, e6⟩
        have z : (U.setVm T.vm) = { (T.setFrames (.invoking m args :: below)).setFrames U.frames with heap := U.heap, slotsUsed := U.slotsUsed } := e1
        rw [State.setFrames_setFrames] at z
        exact z
      have z := XX.same.trans (hTU.setVm s.vm)
      rw [List.append_nil] at z
      exact z
  exact key T hT XR
end EvNewThrow
