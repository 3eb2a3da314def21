/-! Into a handler -/
section EvCaught
variable {p : Program} {l : Launch} {e : Env} {R : Room} {s : State} {m : MethodId} {args : Array Value} {below : List Frame} {meth : Method} {c : Code} {Q : State → Prop} {D : va_G} {tys : List (ClassId × FieldType)} {A : Nat → Prop} {ex : Nat → Nat} {al0 : List Nat} {nL : Nat} {sc : List ev_V}
variable {pc k n : Nat} {L : List (Nat × ev_V)} {cc : ByteArray} {own nm : String}
/-- one step of the search that ends in a handler and leaves warmer tables -/
theorem ev_step_catch {S : State} {a : Addr} {f : JFrame} {r : List Frame} {tgt : Nat} {vm' : Vm} (hfind : ∀ (Q : Handler → Pre) (E : CtlPost) (d : Bool) (acts : List Action), wp (findHandler f a) Q E e d acts S ↔ Q (.found tgt) d acts (S.setVm vm')) :
    (stepThrowing e S a (.java f :: r)).Is ((S.setVm vm').setFrames (.java { f with pc := tgt, stack := [.ref a] } :: r)) [] := by
  simp only [stepThrowing, searchFrame, vmDo]
  generalize hr : Sem.go _ e false [] S = res
  obtain ⟨as, rfl, ha⟩ := Sem.eq_ok_of hr (a := Handler.found tgt) (s' := S.setVm vm') (acts' := []) (by simp [hfind _ _ _ _])
  exact ⟨rfl, ha⟩
theorem es_caught (X : ev_Ctx p R s m args meth c D tys A ex cc own nm nL sc) {hh : List (Nat × Nat × Nat × Nat)} {x tgt : Nat} {w1 : List ev_C} (hrows : ev_rows own c.exceptionTable.toList hh) (hx4 : x < 4) (hf : ev_hand hh pc x = some tgt)
    (h : ev_G p l e R s m args below meth c Q D ev_cl tys A ex al0 nL (tgt, L, [.inr none], w1, k, n)) : ev_TG p l e R s m args below meth c Q D tys A ex al0 nL pc L x w1 k n := by
  intro al ws H locs ls lv rest ax h1 h2 h3 h4 h5 h6 h7 h8 T hT XX
  obtain ⟨hx, hb, hml, hown, hts, hK, hTy, hA, hX, -⟩ := X
  obtain ⟨cell, y1, y2, y3⟩ := h8
  have hpl : e.platform.magicAccessors = ({} : Platform).magicAccessors := by rw [XX.admits.platform]
  have hvm := Stand.throwing_vm T (F0 m pc ls rest) ax
  have hhp := Stand.throwing_heap T (F0 m pc ls rest) ax
  obtain ⟨vm', hW', hgo⟩ := ev_search (e := e) (s := s) (args := args) (own := own) (f := F0 m pc ls rest) (a := ax) (cell := cell) (x := x) hpl hown hts hX.2.2.2.2.2.2.2.2.2.1 y2 y3 hx4 c.exceptionTable.toList hh hrows tgt hf ((T.setTop (F0 m pc ls rest)).pushFrame (.throwing ax)) (by rw [hvm]; exact XX.warmed) (by rw [hhp, hT]; exact y1)
  have hfind : ∀ (Q : Handler → Pre) (E : CtlPost) (d : Bool) (acts : List Action), wp (findHandler (F0 m pc ls rest) ax) Q E e d acts ((T.setTop (F0 m pc ls rest)).pushFrame (.throwing ax)) ↔ Q (.found tgt) d acts (((T.setTop (F0 m pc ls rest)).pushFrame (.throwing ax)).setVm vm') := fun Q E d acts => by
    rw [W.findHandler_eq (meth := meth) (code := c) (by rw [hvm]; exact XX.method') XX.code]
    exact hgo Q E d acts
  obtain ⟨t, a1, b1⟩ := h al ws H locs ls lv [.ref ax] h1 h2 h3 h4 h5 h6 h7 ⟨Or.inr ⟨ax, rfl⟩, trivial⟩ (T.setVm vm') hT (XX.noted hW')
  refine ⟨t, ?_, b1⟩
  have hAt : At T (F0 m pc ls rest).method c below := XX.here
  obtain ⟨hg1, hw1⟩ := hAt.throwing ax
  refine Steps.head hg1 hw1 ?_
  rw [stepThread_throwing (frames_entered hAt.top _), (ev_step_catch hfind).1]
  obtain ⟨g₀, hg⟩ := Option.isSome_iff_exists.mp hAt.top
  obtain ⟨r, hr⟩ := State.topJava?_eq_some.mp hg
  have hr' : (T.setVm vm').frames = .java g₀ :: r := hr
  rw [State.setTop_of_frames _ hr'] at a1
  rw [hr, List.tail_cons]
  have z : (((T.setTop (F0 m pc ls rest)).pushFrame (.throwing ax)).setVm vm').setFrames (.java { F0 m pc ls rest with pc := tgt, stack := [.ref ax] } :: r) = (T.setVm vm').setFrames (.java (F0 m tgt ls [.ref ax]) :: r) := by
    rw [State.setTop_of_frames _ hr, State.pushFrame]
    have z1 : ∀ (u : State) (v : Vm) (F G : List Frame), ((u.setFrames F).setVm v).setFrames G = (u.setVm v).setFrames G := by
      intro u v F G
      have z2 : (u.setFrames F).setVm v = (u.setVm v).setFrames F := rfl
      rw [z2, State.setFrames_setFrames]
    rw [z1, z1]
  rw [z]
  exact a1
end EvCaught
