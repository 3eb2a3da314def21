/-! The evaluator's steps hold of the machine: 'ev_G f': from every state that the frame f stands for, the machine comes to Q -/
def ev_G (p : Program) (l : Launch) (e : Env) (R : Room) (s : State) (m : MethodId) (args : Array Value) (below : List Frame) (meth : Method) (c : Code) (Q : State → Prop) (D : va_G) (cl : List vw_C) (tys : List (ClassId × FieldType)) (A : Nat → Prop) (ex : Nat → Nat) (al0 : List Nat) (nL : Nat) (f : ev_F) : Prop :=
  ∀ (al : List Nat) (ws : va_W) (H : Heap) (locs : List Loc) (ls : Array Slot) (lv : List (Nat × Value)) (st : List Value), al0 <+: al → ev_w al ex tys f.2.2.2.1 ws → va_P D cl ws H → va_D A ws → va_S A s.heap H locs → lv_has ls nL lv → ev_lv al ex f.2.1 lv → ev_st al ex f.2.2.1 st →
    W p l e R s m args below meth c H locs f.2.2.2.2.1 f.2.2.2.2.2 Q (F0 m f.1 ls st)
section EvStep
variable {p : Program} {l : Launch} {e : Env} {R : Room} {s : State} {m : MethodId} {args : Array Value} {below : List Frame} {meth : Method} {c : Code} {Q : State → Prop} {D : va_G} {cl : List vw_C} {tys : List (ClassId × FieldType)} {A : Nat → Prop} {ex : Nat → Nat} {al0 : List Nat} {nL : Nat}
variable {pc k n : Nat} {L : List (Nat × ev_V)} {S : List ev_V} {w : List ev_C} {cc : ByteArray}
theorem es_const {x : ev_V} {v : Value} {len : Nat} (hv : ∀ al, ev_rel al ex x v)
    (row : ∀ {H : Heap} {locs : List Loc} {ls : Array Slot} {st : List Value}, W p l e R s m args below meth c H locs k n Q (F0 m (pc + len) ls (v :: st)) → W p l e R s m args below meth c H locs k n Q (F0 m pc ls st))
    (h : ev_G p l e R s m args below meth c Q D cl tys A ex al0 nL (pc + len, L, x :: S, w, k, n)) : ev_G p l e R s m args below meth c Q D cl tys A ex al0 nL (pc, L, S, w, k, n) := by
  intro al ws H locs ls lv st h1 h2 h3 h4 h5 h6 h7 h8
  exact row (h al ws H locs ls lv (v :: st) h1 h2 h3 h4 h5 h6 h7 ⟨hv al, h8⟩)
theorem es_loadI {i len : Nat} {f' : ev_F} (hf : ev_load ev_isI i len (pc, L, S, w, k, n) = some f')
    (row : ∀ {H : Heap} {locs : List Loc} {ls : Array Slot} {st : List Value} {x : Int32}, ls[i]? = some (.val (.int x)) → W p l e R s m args below meth c H locs k n Q (F0 m (pc + len) ls (.int x :: st)) → W p l e R s m args below meth c H locs k n Q (F0 m pc ls st))
    (h : ev_G p l e R s m args below meth c Q D cl tys A ex al0 nL f') : ev_G p l e R s m args below meth c Q D cl tys A ex al0 nL (pc, L, S, w, k, n) := by
  intro al ws H locs ls lv st h1 h2 h3 h4 h5 h6 h7 h8
  unfold ev_load at hf
  dsimp only at hf
  split at hf
  · rename_i x hx
    cases hi : ev_isI x with
    | false => rw [hi] at hf; cases hf
    | true =>
      rw [hi] at hf
      cases hf
      obtain ⟨q, v, g1, g2⟩ := ev_lv_look h7 hx
      obtain ⟨z, rfl⟩ := ev_rel_I hi g2
      exact row (lv_at h6 q g1) (h al ws H locs ls lv (.int z :: st) h1 h2 h3 h4 h5 h6 h7 ⟨g2, h8⟩)
  · cases hf
theorem es_loadR {i len : Nat} {f' : ev_F} (hf : ev_load ev_isR i len (pc, L, S, w, k, n) = some f')
    (row : ∀ {H : Heap} {locs : List Loc} {ls : Array Slot} {st : List Value} {x : Nat}, ls[i]? = some (.val (.ref x)) → W p l e R s m args below meth c H locs k n Q (F0 m (pc + len) ls (.ref x :: st)) → W p l e R s m args below meth c H locs k n Q (F0 m pc ls st))
    (rowN : ∀ {H : Heap} {locs : List Loc} {ls : Array Slot} {st : List Value}, ls[i]? = some (.val .null) → W p l e R s m args below meth c H locs k n Q (F0 m (pc + len) ls (.null :: st)) → W p l e R s m args below meth c H locs k n Q (F0 m pc ls st))
    (h : ev_G p l e R s m args below meth c Q D cl tys A ex al0 nL f') : ev_G p l e R s m args below meth c Q D cl tys A ex al0 nL (pc, L, S, w, k, n) := by
  intro al ws H locs ls lv st h1 h2 h3 h4 h5 h6 h7 h8
  unfold ev_load at hf
  dsimp only at hf
  split at hf
  · rename_i x hx
    cases hi : ev_isR x with
    | false => rw [hi] at hf; cases hf
    | true =>
      rw [hi] at hf
      cases hf
      obtain ⟨q, v, g1, g2⟩ := ev_lv_look h7 hx
      rcases ev_rel_R hi g2 with rfl | ⟨z, rfl⟩
      · exact rowN (lv_at h6 q g1) (h al ws H locs ls lv (.null :: st) h1 h2 h3 h4 h5 h6 h7 ⟨g2, h8⟩)
      · exact row (lv_at h6 q g1) (h al ws H locs ls lv (.ref z :: st) h1 h2 h3 h4 h5 h6 h7 ⟨g2, h8⟩)
  · cases hf
theorem es_storeI {i len : Nat} {f' : ev_F} (hf : ev_store ev_isI nL i len (pc, L, S, w, k, n) = some f')
    (row : ∀ {H : Heap} {locs : List Loc} {ls : Array Slot} {st : List Value} {lv lv' : List (Nat × Value)} {x : Int32}, lv_has ls nL lv → i < nL → (i, Value.int x) :: lv.filter (fun q => !(q.1 == i) && !(q.1 + 1 == i && q.2.category == 2)) = lv' → (∀ ls' : Array Slot, lv_has ls' nL lv' → W p l e R s m args below meth c H locs k n Q (F0 m (pc + len) ls' st)) → W p l e R s m args below meth c H locs k n Q (F0 m pc ls (.int x :: st)))
    (h : ev_G p l e R s m args below meth c Q D cl tys A ex al0 nL f') : ev_G p l e R s m args below meth c Q D cl tys A ex al0 nL (pc, L, S, w, k, n) := by
  intro al ws H locs ls lv st h1 h2 h3 h4 h5 h6 h7 h8
  unfold ev_store at hf
  split at hf
  · rename_i pc' L' v S' w' c' n' heq
    cases heq
    cases hi : (ev_isI v && Nat.blt i nL) with
    | false => rw [hi] at hf; cases hf
    | true =>
      rw [hi] at hf
      cases hf
      simp only [Bool.and_eq_true] at hi
      obtain ⟨v', st', rfl, g1, g2⟩ := ev_st_cons h8
      obtain ⟨z, rfl⟩ := ev_rel_I hi.1 g1
      have hlt : i < nL := by
        have h9 : i + 1 ≤ nL := by simpa [Nat.blt] using hi.2
        exact h9
      exact row h6 hlt rfl (fun ls' hl' => h al ws H locs ls' _ st' h1 h2 h3 h4 h5 hl' ⟨rfl, g1, ev_lv_del h7 i⟩ g2)
  · cases hf
theorem es_storeR {i len : Nat} {f' : ev_F} (hf : ev_store ev_isR nL i len (pc, L, S, w, k, n) = some f')
    (row : ∀ {H : Heap} {locs : List Loc} {ls : Array Slot} {st : List Value} {lv lv' : List (Nat × Value)} {x : Nat}, lv_has ls nL lv → i < nL → (i, Value.ref x) :: lv.filter (fun q => !(q.1 == i) && !(q.1 + 1 == i && q.2.category == 2)) = lv' → (∀ ls' : Array Slot, lv_has ls' nL lv' → W p l e R s m args below meth c H locs k n Q (F0 m (pc + len) ls' st)) → W p l e R s m args below meth c H locs k n Q (F0 m pc ls (.ref x :: st)))
    (rowN : ∀ {H : Heap} {locs : List Loc} {ls : Array Slot} {st : List Value} {lv lv' : List (Nat × Value)}, lv_has ls nL lv → i < nL → (i, Value.null) :: lv.filter (fun q => !(q.1 == i) && !(q.1 + 1 == i && q.2.category == 2)) = lv' → (∀ ls' : Array Slot, lv_has ls' nL lv' → W p l e R s m args below meth c H locs k n Q (F0 m (pc + len) ls' st)) → W p l e R s m args below meth c H locs k n Q (F0 m pc ls (.null :: st)))
    (h : ev_G p l e R s m args below meth c Q D cl tys A ex al0 nL f') : ev_G p l e R s m args below meth c Q D cl tys A ex al0 nL (pc, L, S, w, k, n) := by
  intro al ws H locs ls lv st h1 h2 h3 h4 h5 h6 h7 h8
  unfold ev_store at hf
  split at hf
  · rename_i pc' L' v S' w' c' n' heq
    cases heq
    cases hi : (ev_isR v && Nat.blt i nL) with
    | false => rw [hi] at hf; cases hf
    | true =>
      rw [hi] at hf
      cases hf
      simp only [Bool.and_eq_true] at hi
      obtain ⟨v', st', rfl, g1, g2⟩ := ev_st_cons h8
      have hlt : i < nL := by
        have h9 : i + 1 ≤ nL := by simpa [Nat.blt] using hi.2
        exact h9
      rcases ev_rel_R hi.1 g1 with rfl | ⟨z, rfl⟩
      · exact rowN h6 hlt rfl (fun ls' hl' => h al ws H locs ls' _ st' h1 h2 h3 h4 h5 hl' ⟨rfl, g1, ev_lv_del h7 i⟩ g2)
      · exact row h6 hlt rfl (fun ls' hl' => h al ws H locs ls' _ st' h1 h2 h3 h4 h5 hl' ⟨rfl, g1, ev_lv_del h7 i⟩ g2)
  · cases hf
theorem es_iinc {i : Nat} {d : Int} {v r : ev_V} (hl : ev_look L i = some v) (hr : ev_op1 (fun x => x + Int32.ofInt d) v = some r) (hi : i < nL)
    (row : ∀ {H : Heap} {locs : List Loc} {ls : Array Slot} {st : List Value} {lv lv' : List (Nat × Value)} {q : Nat} {x y : Int32}, lv_has ls nL lv → lv[q]? = some (i, .int x) → x + Int32.ofInt d = y → i < nL → (i, Value.int y) :: lv.filter (fun q => !(q.1 == i) && !(q.1 + 1 == i && q.2.category == 2)) = lv' → (∀ ls' : Array Slot, lv_has ls' nL lv' → W p l e R s m args below meth c H locs k n Q (F0 m (pc + 3) ls' st)) → W p l e R s m args below meth c H locs k n Q (F0 m pc ls st))
    (h : ev_G p l e R s m args below meth c Q D cl tys A ex al0 nL (pc + 3, (i, r) :: ev_del L i, S, w, k, n)) : ev_G p l e R s m args below meth c Q D cl tys A ex al0 nL (pc, L, S, w, k, n) := by
  intro al ws H locs ls lv st h1 h2 h3 h4 h5 h6 h7 h8
  obtain ⟨q, v', g1, g2⟩ := ev_lv_look h7 hl
  obtain ⟨x, rfl, g3⟩ := ev_op1_rel hr g2
  exact row h6 g1 rfl hi rfl (fun ls' hl' => h al ws H locs ls' _ st h1 h2 h3 h4 h5 hl' ⟨rfl, g3, ev_lv_del h7 i⟩ h8)
theorem es_bin {g : Int32 → Int32 → Int32} {f' : ev_F} (hf : ev_bin g (pc, L, S, w, k, n) = some f')
    (row : ∀ {H : Heap} {locs : List Loc} {ls : Array Slot} {st : List Value} {x y : Int32}, W p l e R s m args below meth c H locs k n Q (F0 m (pc + 1) ls (.int (g x y) :: st)) → W p l e R s m args below meth c H locs k n Q (F0 m pc ls (.int y :: .int x :: st)))
    (h : ev_G p l e R s m args below meth c Q D cl tys A ex al0 nL f') : ev_G p l e R s m args below meth c Q D cl tys A ex al0 nL (pc, L, S, w, k, n) := by
  intro al ws H locs ls lv st h1 h2 h3 h4 h5 h6 h7 h8
  unfold ev_bin at hf
  split at hf
  · rename_i pc' L' b a S' w' c' n' heq
    cases heq
    split at hf
    · rename_i r hr
      cases hf
      obtain ⟨vb, st1, rfl, g1, g2⟩ := ev_st_cons h8
      obtain ⟨va, st2, rfl, g3, g4⟩ := ev_st_cons g2
      obtain ⟨x, y, rfl, rfl, g5⟩ := ev_op2_rel hr g3 g1
      exact row (h al ws H locs ls lv _ h1 h2 h3 h4 h5 h6 h7 ⟨g5, g4⟩)
    · cases hf
  · cases hf
theorem es_un {g : Int32 → Int32} {f' : ev_F} (hf : ev_un g (pc, L, S, w, k, n) = some f')
    (row : ∀ {H : Heap} {locs : List Loc} {ls : Array Slot} {st : List Value} {x : Int32}, W p l e R s m args below meth c H locs k n Q (F0 m (pc + 1) ls (.int (g x) :: st)) → W p l e R s m args below meth c H locs k n Q (F0 m pc ls (.int x :: st)))
    (h : ev_G p l e R s m args below meth c Q D cl tys A ex al0 nL f') : ev_G p l e R s m args below meth c Q D cl tys A ex al0 nL (pc, L, S, w, k, n) := by
  intro al ws H locs ls lv st h1 h2 h3 h4 h5 h6 h7 h8
  unfold ev_un at hf
  split at hf
  · rename_i pc' L' a S' w' c' n' heq
    cases heq
    split at hf
    · rename_i r hr
      cases hf
      obtain ⟨va, st1, rfl, g1, g2⟩ := ev_st_cons h8
      obtain ⟨x, rfl, g5⟩ := ev_op1_rel hr g1
      exact row (h al ws H locs ls lv _ h1 h2 h3 h4 h5 h6 h7 ⟨g5, g2⟩)
    · cases hf
  · cases hf
theorem es_loadL {i len : Nat} {f' : ev_F} (hf : ev_load ev_isL i len (pc, L, S, w, k, n) = some f')
    (row : ∀ {H : Heap} {locs : List Loc} {ls : Array Slot} {st : List Value} {x : Int64}, ls[i]? = some (.val (.long x)) → W p l e R s m args below meth c H locs k n Q (F0 m (pc + len) ls (.long x :: st)) → W p l e R s m args below meth c H locs k n Q (F0 m pc ls st))
    (h : ev_G p l e R s m args below meth c Q D cl tys A ex al0 nL f') : ev_G p l e R s m args below meth c Q D cl tys A ex al0 nL (pc, L, S, w, k, n) := by
  intro al ws H locs ls lv st h1 h2 h3 h4 h5 h6 h7 h8
  unfold ev_load at hf
  dsimp only at hf
  split at hf
  · rename_i x hx
    cases hi : ev_isL x with
    | false => rw [hi] at hf; cases hf
    | true =>
      rw [hi] at hf
      cases hf
      obtain ⟨q, v, g1, g2⟩ := ev_lv_look h7 hx
      obtain ⟨z, rfl⟩ := ev_rel_L hi g2
      exact row (lv_at h6 q g1) (h al ws H locs ls lv (.long z :: st) h1 h2 h3 h4 h5 h6 h7 ⟨g2, h8⟩)
  · cases hf
theorem es_storeL {i len : Nat} {f' : ev_F} (hf : ev_storeL nL i len (pc, L, S, w, k, n) = some f')
    (row : ∀ {H : Heap} {locs : List Loc} {ls : Array Slot} {st : List Value} {lv lv' : List (Nat × Value)} {x : Int64}, lv_has ls nL lv → i + 1 < nL → (i, Value.long x) :: lv.filter (fun q => !(q.1 == i) && (!(q.1 == i + 1) && !(q.1 + 1 == i && q.2.category == 2))) = lv' → (∀ ls' : Array Slot, lv_has ls' nL lv' → W p l e R s m args below meth c H locs k n Q (F0 m (pc + len) ls' st)) → W p l e R s m args below meth c H locs k n Q (F0 m pc ls (.long x :: st)))
    (h : ev_G p l e R s m args below meth c Q D cl tys A ex al0 nL f') : ev_G p l e R s m args below meth c Q D cl tys A ex al0 nL (pc, L, S, w, k, n) := by
  intro al ws H locs ls lv st h1 h2 h3 h4 h5 h6 h7 h8
  unfold ev_storeL at hf
  split at hf
  · rename_i pc' L' v S' w' c' n' heq
    cases heq
    cases hi : (ev_isL v && Nat.blt (i + 1) nL) with
    | false => rw [hi] at hf; cases hf
    | true =>
      rw [hi] at hf
      cases hf
      simp only [Bool.and_eq_true] at hi
      obtain ⟨v', st', rfl, g1, g2⟩ := ev_st_cons h8
      obtain ⟨z, rfl⟩ := ev_rel_L hi.1 g1
      have hlt : i + 1 < nL := by
        have h9 : i + 1 + 1 ≤ nL := by simpa [Nat.blt] using hi.2
        exact h9
      exact row h6 hlt rfl (fun ls' hl' => h al ws H locs ls' _ st' h1 h2 h3 h4 h5 hl' ⟨rfl, g1, ev_lv_del2 h7 i⟩ g2)
  · cases hf
theorem es_binL {g : Int64 → Int64 → Int64} {f' : ev_F} (hf : ev_binL g (pc, L, S, w, k, n) = some f')
    (row : ∀ {H : Heap} {locs : List Loc} {ls : Array Slot} {st : List Value} {x y : Int64}, W p l e R s m args below meth c H locs k n Q (F0 m (pc + 1) ls (.long (g x y) :: st)) → W p l e R s m args below meth c H locs k n Q (F0 m pc ls (.long y :: .long x :: st)))
    (h : ev_G p l e R s m args below meth c Q D cl tys A ex al0 nL f') : ev_G p l e R s m args below meth c Q D cl tys A ex al0 nL (pc, L, S, w, k, n) := by
  intro al ws H locs ls lv st h1 h2 h3 h4 h5 h6 h7 h8
  unfold ev_binL at hf
  split at hf
  · rename_i pc' L' y x S' w' c' n' heq
    cases heq
    cases hf
    obtain ⟨vb, st1, rfl, g1, g2⟩ := ev_st_cons h8
    obtain ⟨va, st2, rfl, g3, g4⟩ := ev_st_cons g2
    have g1 : vb = .long y := g1
    have g3 : va = .long x := g3
    subst g1
    subst g3
    exact row (h al ws H locs ls lv _ h1 h2 h3 h4 h5 h6 h7 ⟨rfl, g4⟩)
  · cases hf
theorem es_shL {g : Int64 → Int32 → Int64} {f' : ev_F} (hf : ev_shL g (pc, L, S, w, k, n) = some f')
    (row : ∀ {H : Heap} {locs : List Loc} {ls : Array Slot} {st : List Value} {x : Int64} {y : Int32}, W p l e R s m args below meth c H locs k n Q (F0 m (pc + 1) ls (.long (g x y) :: st)) → W p l e R s m args below meth c H locs k n Q (F0 m pc ls (.int y :: .long x :: st)))
    (h : ev_G p l e R s m args below meth c Q D cl tys A ex al0 nL f') : ev_G p l e R s m args below meth c Q D cl tys A ex al0 nL (pc, L, S, w, k, n) := by
  intro al ws H locs ls lv st h1 h2 h3 h4 h5 h6 h7 h8
  unfold ev_shL at hf
  split at hf
  · rename_i pc' L' y x S' w' c' n' heq
    cases heq
    cases hf
    obtain ⟨vb, st1, rfl, g1, g2⟩ := ev_st_cons h8
    obtain ⟨va, st2, rfl, g3, g4⟩ := ev_st_cons g2
    have g1 : vb = .int y := g1
    have g3 : va = .long x := g3
    subst g1
    subst g3
    exact row (h al ws H locs ls lv _ h1 h2 h3 h4 h5 h6 h7 ⟨rfl, g4⟩)
  · cases hf
theorem ev_go_some {t : Option Bool} {a b q : Nat} (h : ev_go t a b = some q) : (t = some true ∧ q = a) ∨ (t = some false ∧ q = b) := by
  cases t with
  | none => cases h
  | some t => cases t <;> cases h <;> simp
/-- a branch on two ints -/
theorem es_jump2 {K : ClassFile.Cond} {off : Int} {tgt : Nat} {f' : ev_F} (hx : p.tables.exec = Jvm.exec) (hb : c.code = cc) (hd : decode cc pc = .ok (.if_icmp K off, 3)) (ht : (pc : Int) + off = (tgt : Int))
    (hf : ev_jump K true [tgt] (pc, L, S, w, k, n) = some f') (h : ev_G p l e R s m args below meth c Q D cl tys A ex al0 nL f') : ev_G p l e R s m args below meth c Q D cl tys A ex al0 nL (pc, L, S, w, k, n) := by
  intro al ws H locs ls lv st h1 h2 h3 h4 h5 h6 h7 h8
  unfold ev_jump at hf
  dsimp only at hf
  split at hf
  · rename_i pc' L' b a S' w' c' n' heq
    cases heq
    split at hf
    · rename_i q hq
      cases hf
      obtain ⟨vb, st1, rfl, g1, g2⟩ := ev_st_cons h8
      obtain ⟨va, st2, rfl, g3, g4⟩ := ev_st_cons g2
      have go := h al ws H locs ls lv st2 h1 h2 h3 h4 h5 h6 h7 g4
      rcases ev_go_some hq with ⟨ht1, rfl⟩ | ⟨ht1, rfl⟩
      · cases K with
        | eq =>
          obtain ⟨x, y, rfl, rfl, j1, j2⟩ := ev_eq_rel ht1 g3 g1
          exact lv_icmp_eq hx hb hd ht (fun _ => go) (fun z => absurd (j1 rfl) z)
        | ne =>
          obtain ⟨x, y, rfl, rfl, j1, j2⟩ := ev_eq_rel (ev_not_some ht1) g3 g1
          exact lv_icmp_ne hx hb hd ht (fun _ => go) (fun z => absurd z (j2 rfl))
        | lt =>
          obtain ⟨x, y, rfl, rfl, j1, j2⟩ := ev_lt_rel ht1 g3 g1
          exact lv_icmp_lt hx hb hd ht (fun _ => go) (fun z => absurd (j1 rfl) z)
        | ge =>
          obtain ⟨x, y, rfl, rfl, j1, j2⟩ := ev_lt_rel (ev_not_some ht1) g3 g1
          exact lv_icmp_ge hx hb hd ht (fun _ => go) (fun z => absurd (Int32.not_lt.mp (j2 rfl)) z)
        | gt =>
          obtain ⟨y, x, rfl, rfl, j1, j2⟩ := ev_lt_rel ht1 g1 g3
          exact lv_icmp_gt hx hb hd ht (fun _ => go) (fun z => absurd (j1 rfl) z)
        | le =>
          obtain ⟨y, x, rfl, rfl, j1, j2⟩ := ev_lt_rel (ev_not_some ht1) g1 g3
          exact lv_icmp_le hx hb hd ht (fun _ => go) (fun z => absurd (Int32.not_lt.mp (j2 rfl)) z)
      · cases K with
        | eq =>
          obtain ⟨x, y, rfl, rfl, j1, j2⟩ := ev_eq_rel ht1 g3 g1
          exact lv_icmp_eq hx hb hd ht (fun z => absurd z (j2 rfl)) (fun _ => go)
        | ne =>
          obtain ⟨x, y, rfl, rfl, j1, j2⟩ := ev_eq_rel (ev_not_some ht1) g3 g1
          exact lv_icmp_ne hx hb hd ht (fun z => absurd (j1 rfl) z) (fun _ => go)
        | lt =>
          obtain ⟨x, y, rfl, rfl, j1, j2⟩ := ev_lt_rel ht1 g3 g1
          exact lv_icmp_lt hx hb hd ht (fun z => absurd z (j2 rfl)) (fun _ => go)
        | ge =>
          obtain ⟨x, y, rfl, rfl, j1, j2⟩ := ev_lt_rel (ev_not_some ht1) g3 g1
          exact lv_icmp_ge hx hb hd ht (fun z => absurd (j1 rfl) (Int32.not_lt.mpr z)) (fun _ => go)
        | gt =>
          obtain ⟨y, x, rfl, rfl, j1, j2⟩ := ev_lt_rel ht1 g1 g3
          exact lv_icmp_gt hx hb hd ht (fun z => absurd z (j2 rfl)) (fun _ => go)
        | le =>
          obtain ⟨y, x, rfl, rfl, j1, j2⟩ := ev_lt_rel (ev_not_some ht1) g1 g3
          exact lv_icmp_le hx hb hd ht (fun z => absurd (j1 rfl) (Int32.not_lt.mpr z)) (fun _ => go)
    · cases hf
  · rename_i heq _
    cases heq
  · cases hf
/-- a branch on an int against 0 -/
theorem es_jump1 {K : ClassFile.Cond} {off : Int} {tgt : Nat} {f' : ev_F} (hx : p.tables.exec = Jvm.exec) (hb : c.code = cc) (hd : decode cc pc = .ok (.ifCond K off, 3)) (ht : (pc : Int) + off = (tgt : Int))
    (hf : ev_jump K false [tgt] (pc, L, S, w, k, n) = some f') (h : ev_G p l e R s m args below meth c Q D cl tys A ex al0 nL f') : ev_G p l e R s m args below meth c Q D cl tys A ex al0 nL (pc, L, S, w, k, n) := by
  intro al ws H locs ls lv st h1 h2 h3 h4 h5 h6 h7 h8
  unfold ev_jump at hf
  dsimp only at hf
  split at hf
  · rename_i heq _
    cases heq
  · rename_i pc' L' a S' w' c' n' heq
    cases heq
    split at hf
    · rename_i q hq
      cases hf
      obtain ⟨va, st2, rfl, g3, g4⟩ := ev_st_cons h8
      have g1 : ev_rel al ex ev_zero (.int 0) := rfl
      have go := h al ws H locs ls lv st2 h1 h2 h3 h4 h5 h6 h7 g4
      rcases ev_go_some hq with ⟨ht1, rfl⟩ | ⟨ht1, rfl⟩
      · cases K with
        | eq =>
          obtain ⟨x, y, rfl, e, j1, j2⟩ := ev_eq_rel ht1 g3 g1
          cases e
          exact lv_if_eq hx hb hd ht (fun _ => go) (fun z => absurd (j1 rfl) z)
        | ne =>
          obtain ⟨x, y, rfl, e, j1, j2⟩ := ev_eq_rel (ev_not_some ht1) g3 g1
          cases e
          exact lv_if_ne hx hb hd ht (fun _ => go) (fun z => absurd z (j2 rfl))
        | lt =>
          obtain ⟨x, y, rfl, e, j1, j2⟩ := ev_lt_rel ht1 g3 g1
          cases e
          exact lv_if_lt hx hb hd ht (fun _ => go) (fun z => absurd (j1 rfl) z)
        | ge =>
          obtain ⟨x, y, rfl, e, j1, j2⟩ := ev_lt_rel (ev_not_some ht1) g3 g1
          cases e
          exact lv_if_ge hx hb hd ht (fun _ => go) (fun z => absurd (Int32.not_lt.mp (j2 rfl)) z)
        | gt =>
          obtain ⟨y, x, e, rfl, j1, j2⟩ := ev_lt_rel ht1 g1 g3
          cases e
          exact lv_if_gt hx hb hd ht (fun _ => go) (fun z => absurd (j1 rfl) z)
        | le =>
          obtain ⟨y, x, e, rfl, j1, j2⟩ := ev_lt_rel (ev_not_some ht1) g1 g3
          cases e
          exact lv_if_le hx hb hd ht (fun _ => go) (fun z => absurd (Int32.not_lt.mp (j2 rfl)) z)
      · cases K with
        | eq =>
          obtain ⟨x, y, rfl, e, j1, j2⟩ := ev_eq_rel ht1 g3 g1
          cases e
          exact lv_if_eq hx hb hd ht (fun z => absurd z (j2 rfl)) (fun _ => go)
        | ne =>
          obtain ⟨x, y, rfl, e, j1, j2⟩ := ev_eq_rel (ev_not_some ht1) g3 g1
          cases e
          exact lv_if_ne hx hb hd ht (fun z => absurd (j1 rfl) z) (fun _ => go)
        | lt =>
          obtain ⟨x, y, rfl, e, j1, j2⟩ := ev_lt_rel ht1 g3 g1
          cases e
          exact lv_if_lt hx hb hd ht (fun z => absurd z (j2 rfl)) (fun _ => go)
        | ge =>
          obtain ⟨x, y, rfl, e, j1, j2⟩ := ev_lt_rel (ev_not_some ht1) g3 g1
          cases e
          exact lv_if_ge hx hb hd ht (fun z => absurd (j1 rfl) (Int32.not_lt.mpr z)) (fun _ => go)
        | gt =>
          obtain ⟨y, x, e, rfl, j1, j2⟩ := ev_lt_rel ht1 g1 g3
          cases e
          exact lv_if_gt hx hb hd ht (fun z => absurd z (j2 rfl)) (fun _ => go)
        | le =>
          obtain ⟨y, x, e, rfl, j1, j2⟩ := ev_lt_rel (ev_not_some ht1) g1 g3
          cases e
          exact lv_if_le hx hb hd ht (fun z => absurd (j1 rfl) (Int32.not_lt.mpr z)) (fun _ => go)
    · cases hf
  · cases hf
theorem ev_null_rel {al : List Nat} {x : ev_V} {v : Value} {b : Bool} (hx : ev_null x = some b) (h : ev_rel al ex x v) : (b = true ∧ v = .null) ∨ (b = false ∧ ∃ a, v = .ref a) := by
  rcases x with (z | o)
  · cases z with
    | ref q => obtain ⟨a, -, h⟩ := h; cases hx; exact Or.inr ⟨rfl, a, h⟩
    | retAddr j => cases hx; exact Or.inr ⟨rfl, _, h⟩
    | null => cases hx; exact Or.inl ⟨rfl, h⟩
    | _ => cases hx
  · cases o with
    | none => cases hx
    | some o => cases hx
theorem es_jnullT {off : Int} {tgt : Nat} {f' : ev_F} (hx : p.tables.exec = Jvm.exec) (hb : c.code = cc) (hd : decode cc pc = .ok (.ifnull off, 3)) (ht : (pc : Int) + off = (tgt : Int))
    (hf : ev_jnull true [tgt] (pc, L, S, w, k, n) = some f') (h : ev_G p l e R s m args below meth c Q D cl tys A ex al0 nL f') : ev_G p l e R s m args below meth c Q D cl tys A ex al0 nL (pc, L, S, w, k, n) := by
  intro al ws H locs ls lv st h1 h2 h3 h4 h5 h6 h7 h8
  unfold ev_jnull at hf
  split at hf
  · rename_i tg pc' L' a S' w' c' n' e1 e2
    cases e1
    cases e2
    split at hf
    · rename_i b hq
      cases hf
      obtain ⟨va, st2, rfl, g3, g4⟩ := ev_st_cons h8
      have go := h al ws H locs ls lv st2 h1 h2 h3 h4 h5 h6 h7 g4
      rcases ev_null_rel hq g3 with ⟨rfl, rfl⟩ | ⟨rfl, a', rfl⟩
      · exact lv_ifnullN hx hb hd ht go
      · exact lv_ifnull hx hb hd go
    · cases hf
  · cases hf
theorem es_jnullF {off : Int} {tgt : Nat} {f' : ev_F} (hx : p.tables.exec = Jvm.exec) (hb : c.code = cc) (hd : decode cc pc = .ok (.ifnonnull off, 3)) (ht : (pc : Int) + off = (tgt : Int))
    (hf : ev_jnull false [tgt] (pc, L, S, w, k, n) = some f') (h : ev_G p l e R s m args below meth c Q D cl tys A ex al0 nL f') : ev_G p l e R s m args below meth c Q D cl tys A ex al0 nL (pc, L, S, w, k, n) := by
  intro al ws H locs ls lv st h1 h2 h3 h4 h5 h6 h7 h8
  unfold ev_jnull at hf
  split at hf
  · rename_i tg pc' L' a S' w' c' n' e1 e2
    cases e1
    cases e2
    split at hf
    · rename_i b hq
      cases hf
      obtain ⟨va, st2, rfl, g3, g4⟩ := ev_st_cons h8
      have go := h al ws H locs ls lv st2 h1 h2 h3 h4 h5 h6 h7 g4
      rcases ev_null_rel hq g3 with ⟨rfl, rfl⟩ | ⟨rfl, a', rfl⟩
      · exact lv_ifnonnullN hx hb hd go
      · exact lv_ifnonnull hx hb hd ht go
    · cases hf
  · cases hf
end EvStep
