/-! The evaluator's steps on the heap -/
/-- the types of arrays that worlds hold, by number -/
def ev_tys : List FieldType := [.int, .byte, .long, .object "java/lang/String", .array .long, .array .boolean, .object "PathProverModel$Module", .object "PathProverModel$Bits", .boolean, .object "PathProverModel$Node", .object "PathProverModel$Instance"]
section EvHeap
variable {p : Program} {l : Launch} {e : Env} {R : Room} {s : State} {m : MethodId} {args : Array Value} {below : List Frame} {meth : Method} {c : Code} {Q : State → Prop} {D : va_G} {cl : List vw_C} {tys : List (ClassId × FieldType)} {A : Nat → Prop} {ex : Nat → Nat} {al0 : List Nat} {nL : Nat}
variable {pc k n : Nat} {L : List (Nat × ev_V)} {S : List ev_V} {w : List ev_C} {cc : ByteArray} {own : String} {Ts : List Cond}
theorem ev_ty (hT : tys.map Prod.snd = ev_tys) {t : Nat} {cA : ClassId} {ty : FieldType} (h : tys[t]? = some (cA, ty)) : ev_tys[t]? = some ty := by
  rw [← hT, List.getElem?_map, h]
  rfl
/-- a field of an object, read -/
theorem es_get {index ci q N : Nat} {C : String} {T : u_T} {fs : List ev_V} {v : ev_V} (hx : p.tables.exec = Jvm.exec) (hb : c.code = cc) (hd : decode cc pc = .ok (.getfield index, 3)) (hts : ∀ w ∈ Ts, w.before args s = true) (hin : ∀ w ∈ u_ws C T N, w ∈ Ts) (hown : s.vm.findClass own = some m.cls) (hK : va_K D cl tys s) (hc : cl[ci]? = some (C, T, N)) {j : Nat} (hj : j < N)
    (hlink : (Cond.fieldLink own index (T j).1 (T j).2.1 (T j).2.2.1).before args s = true ∨ ∃ host, (Cond.fieldLinkNest own index (T j).1 (T j).2.1 (T j).2.2.1 host).before args s = true)
    (hw : w[q]? = some (.inl (ci, fs))) (hv : fs[j]? = some v)
    (h : ev_G p l e R s m args below meth c Q D cl tys A ex al0 nL (pc + 3, L, v :: S, w, k, n)) : ev_G p l e R s m args below meth c Q D cl tys A ex al0 nL (pc, L, .inl (.ref q) :: S, w, k, n) := by
  intro al ws H locs ls lv st h1 h2 h3 h4 h5 h6 h7 h8
  obtain ⟨va, st1, rfl, ⟨a, g0, rfl⟩, g2⟩ := ev_st_cons h8
  obtain ⟨E, g3, vs, rfl, g4⟩ := ev_w_get h2 hw g0
  obtain ⟨v', g5, g6⟩ := ev_st_get g4 hv
  have go := h al ws H locs ls lv (v' :: st1) h1 h2 h3 h4 h5 h6 h7 ⟨g6, g2⟩
  rcases hlink with hlink | ⟨host, hlink⟩
  · exact va_get hx hb hts hin hown hK h3 q g3 hc j hj hlink (fun x hq => hq) g5 hd go
  · exact va_getN hx hb hts hin hown hK h3 q g3 hc j hj hlink (fun x hq => hq) g5 hd go
theorem ev_fit_rel {al : List Nat} {tc : Nat} {x : ev_V} {v : Value} {ty : FieldType} (hf : ev_fit tc x = true) (hr : ev_rel al ex x v)
    (ht : (tc = 0 ∧ ty = .int) ∨ (tc = 1 ∧ ty = .boolean) ∨ (tc = 2 ∧ ((∃ C, ty = .object C) ∨ ∃ t, ty = .array t)) ∨ (tc = 3 ∧ ty = .long)) : narrow ty v = v ∧ fits ty v = true := by
  rcases ht with ⟨rfl, rfl⟩ | ⟨rfl, rfl⟩ | ⟨rfl, ht⟩ | ⟨rfl, rfl⟩
  · obtain ⟨z, rfl⟩ := ev_rel_I (x := x) hf hr
    exact ⟨rfl, rfl⟩
  · have hf : ev_bit x = true := hf
    rcases x with (z | o)
    · cases z with
      | int z =>
        have e : v = .int z := hr
        subst e
        simp [ev_bit] at hf
        rcases hf with rfl | rfl
        · exact ⟨by decide +kernel, by decide +kernel⟩
        · exact ⟨by decide +kernel, by decide +kernel⟩
      | _ => simp [ev_bit] at hf
    · simp [ev_bit] at hf
  · have hf : ev_isR x = true := hf
    rcases ev_rel_R hf hr with rfl | ⟨a, rfl⟩
    · rcases ht with ⟨C, rfl⟩ | ⟨t, rfl⟩ <;> exact ⟨rfl, rfl⟩
    · rcases ht with ⟨C, rfl⟩ | ⟨t, rfl⟩ <;> exact ⟨rfl, rfl⟩
  · obtain ⟨z, rfl⟩ := ev_rel_L (x := x) hf hr
    exact ⟨rfl, rfl⟩
/-- a field of an object, written -/
theorem es_putG {index ci q N : Nat} {C : String} {T : u_T} {fs : List ev_V} {v : ev_V} (hx : p.tables.exec = Jvm.exec) (hb : c.code = cc) (hd : decode cc pc = .ok (.putfield index, 3)) (hts : ∀ w ∈ Ts, w.before args s = true) (hin : ∀ w ∈ u_ws C T N, w ∈ Ts) (ty0 : Nat → FieldType) (hty : ∀ j, j < N → parseFieldDescriptor (T j).2.2.1 = some (ty0 j)) (hnm : ∀ a, a < N → ∀ b, b < N → a ≠ b → (T a).2.1 ≠ (T b).2.1) (hown : s.vm.findClass own = some m.cls) (hK : va_K D cl tys s) (hc : cl[ci]? = some (C, T, N)) {j : Nat} (hj : j < N)
    (hlink : (Cond.fieldLink own index (T j).1 (T j).2.1 (T j).2.2.1).before args s = true ∧ ((T j).2.2.2 = false ∨ ((T j).2.2.2 = true ∧ meth.name = "<init>" ∧ (T j).1 = own)) ∨ ∃ host, (Cond.fieldLinkNest own index (T j).1 (T j).2.1 (T j).2.2.1 host).before args s = true ∧ (T j).2.2.2 = false)
    (hnf : ∀ (al : List Nat) (v' : Value), ev_rel al ex v v' → narrow (ty0 j) v' = v' ∧ fits (ty0 j) v' = true)
    (hw : w[q]? = some (.inl (ci, fs))) (hl : j < fs.length)
    (h : ev_G p l e R s m args below meth c Q D cl tys A ex al0 nL (pc + 3, L, S, w.set q (.inl (ci, fs.set j v)), k, n)) : ev_G p l e R s m args below meth c Q D cl tys A ex al0 nL (pc, L, v :: .inl (.ref q) :: S, w, k, n) := by
  intro al ws H locs ls lv st h1 h2 h3 h4 h5 h6 h7 h8
  obtain ⟨v', st0, rfl, g8, g9⟩ := ev_st_cons h8
  obtain ⟨va, st1, rfl, ⟨a, g0, rfl⟩, g2⟩ := ev_st_cons g9
  obtain ⟨E, g3, vs, rfl, g4⟩ := ev_w_get h2 hw g0
  obtain ⟨hn, hfi⟩ := hnf al v' g8
  have hl' : j < vs.length := by rw [← ev_st_len g4]; exact hl
  have go : ∀ (H1 : Heap) (locs1 : List Loc), va_P D cl (ws.set q (a, .inr (ci, vs.set j v'))) H1 → va_D A (ws.set q (a, .inr (ci, vs.set j v'))) → va_S A s.heap H1 locs1 → W p l e R s m args below meth c H1 locs1 k n Q (F0 m (pc + 3) ls st1) :=
    fun H1 locs1 i1 i2 i3 => h al _ H1 locs1 ls lv st1 h1 (ev_w_set h2 g0 ⟨_, rfl, ev_st_set g4 j g8⟩) i1 i2 i3 h6 h7 g2
  rcases hlink with ⟨hlink, hfin | ⟨hfin, hin2, hCo⟩⟩ | ⟨host, hlink, hfin⟩
  · exact va_put hx hb hts hin ty0 hty hnm hown hK h3 h4 h5 q g3 hc j hj hlink (fun x hq => hq) hfin (hty j hj) hn hfi hl' hd go
  · exact va_putF hx hb hts hin ty0 hty hnm hown hK h3 h4 h5 q g3 hc j hj hlink (fun x hq => hq) hfin hin2 hCo (hty j hj) hn hfi hl' hd go
  · exact va_putN hx hb hts hin ty0 hty hnm hown hK h3 h4 h5 q g3 hc j hj hlink (fun x hq => hq) hfin (hty j hj) hn hfi hl' hd go
theorem es_put {index ci q N tc : Nat} {C : String} {T : u_T} {fs : List ev_V} {v : ev_V} (hx : p.tables.exec = Jvm.exec) (hb : c.code = cc) (hd : decode cc pc = .ok (.putfield index, 3)) (hts : ∀ w ∈ Ts, w.before args s = true) (hin : ∀ w ∈ u_ws C T N, w ∈ Ts) (ty0 : Nat → FieldType) (hty : ∀ j, j < N → parseFieldDescriptor (T j).2.2.1 = some (ty0 j)) (hnm : ∀ a, a < N → ∀ b, b < N → a ≠ b → (T a).2.1 ≠ (T b).2.1) (hown : s.vm.findClass own = some m.cls) (hK : va_K D cl tys s) (hc : cl[ci]? = some (C, T, N)) {j : Nat} (hj : j < N)
    (hlink : (Cond.fieldLink own index (T j).1 (T j).2.1 (T j).2.2.1).before args s = true ∧ ((T j).2.2.2 = false ∨ ((T j).2.2.2 = true ∧ meth.name = "<init>" ∧ (T j).1 = own)) ∨ ∃ host, (Cond.fieldLinkNest own index (T j).1 (T j).2.1 (T j).2.2.1 host).before args s = true ∧ (T j).2.2.2 = false)
    (htc : (tc = 0 ∧ ty0 j = .int) ∨ (tc = 1 ∧ ty0 j = .boolean) ∨ (tc = 2 ∧ ((∃ C, ty0 j = .object C) ∨ ∃ t, ty0 j = .array t)) ∨ (tc = 3 ∧ ty0 j = .long))
    (hw : w[q]? = some (.inl (ci, fs))) (hv : ev_fit tc v = true) (hl : j < fs.length)
    (h : ev_G p l e R s m args below meth c Q D cl tys A ex al0 nL (pc + 3, L, S, w.set q (.inl (ci, fs.set j v)), k, n)) : ev_G p l e R s m args below meth c Q D cl tys A ex al0 nL (pc, L, v :: .inl (.ref q) :: S, w, k, n) :=
  es_putG hx hb hd hts hin ty0 hty hnm hown hK hc hj hlink (fun al v' hr => ev_fit_rel (ty := ty0 j) hv hr htc) hw hl h
/-- the length of an array of the world -/
theorem es_alen {q t N : Nat} {d : ev_V} {wr : List (Nat × ev_V)} (hx : p.tables.exec = Jvm.exec) (hb : c.code = cc) (hd : decode cc pc = .ok (.arraylength, 1)) (hK : va_K D cl tys s) (hw : w[q]? = some (.inr (t, N, d, wr)))
    (h : ev_G p l e R s m args below meth c Q D cl tys A ex al0 nL (pc + 1, L, .inl (.int (Int32.ofNat N)) :: S, w, k, n)) : ev_G p l e R s m args below meth c Q D cl tys A ex al0 nL (pc, L, .inl (.ref q) :: S, w, k, n) := by
  intro al ws H locs ls lv st h1 h2 h3 h4 h5 h6 h7 h8
  obtain ⟨va, st1, rfl, ⟨a, g0, rfl⟩, g2⟩ := ev_st_cons h8
  obtain ⟨E, g3, cA, ty, g4, g5⟩ := ev_w_get h2 hw g0
  have go := h al ws H locs ls lv (.int (Int32.ofNat N) :: st1) h1 h2 h3 h4 h5 h6 h7 ⟨rfl, g2⟩
  have he : ∃ x : vp_A, E = .inl (cA, x) ∧ x.1 = N := by
    unfold ev_arr at g5
    split at g5
    all_goals (obtain ⟨f, rfl, -⟩ := g5; exact ⟨_, rfl, rfl⟩)
  obtain ⟨x, rfl, hxN⟩ := he
  exact va_alen hx hb hK h3 q t g3 g4 (by rw [hxN]) hd go
/-- loads -/
theorem es_ald0 {q N i : Nat} {x d : ev_V} {wr : List (Nat × ev_V)} (hx : p.tables.exec = Jvm.exec) (hb : c.code = cc) (hd : decode cc pc = .ok (.iaload, 1)) (hK : va_K D cl tys s) (hT : tys.map Prod.snd = ev_tys) (hw : w[q]? = some (.inr (0, N, d, wr))) (hi : ev_ix N x = some i)
    (h : ev_G p l e R s m args below meth c Q D cl tys A ex al0 nL (pc + 1, L, ev_at d wr i :: S, w, k, n)) : ev_G p l e R s m args below meth c Q D cl tys A ex al0 nL (pc, L, x :: .inl (.ref q) :: S, w, k, n) := by
  intro al ws H locs ls lv st h1 h2 h3 h4 h5 h6 h7 h8
  obtain ⟨vx, st0, rfl, g8, g9⟩ := ev_st_cons h8
  obtain ⟨va, st1, rfl, ⟨a, g0, rfl⟩, g2⟩ := ev_st_cons g9
  obtain ⟨z, rfl, g6, g7, g10⟩ := ev_ix_some hi
  have e : vx = .int z := g8
  subst e
  obtain ⟨E, g3, cA, ty, g4, f, rfl, g5⟩ := ev_w_get h2 hw g0
  cases ev_ty hT g4
  have go := h al ws H locs ls lv (.int (f i) :: st1) h1 h2 h3 h4 h5 h6 h7 ⟨g5 i g10, g2⟩
  rw [← g7] at go
  exact va_iald hx hb hK h3 q 0 g3 g4 g6 hd go
theorem es_ald1 {q N i : Nat} {x d : ev_V} {wr : List (Nat × ev_V)} (hx : p.tables.exec = Jvm.exec) (hb : c.code = cc) (hd : decode cc pc = .ok (.baload, 1)) (hK : va_K D cl tys s) (hT : tys.map Prod.snd = ev_tys) (hw : w[q]? = some (.inr (1, N, d, wr))) (hi : ev_ix N x = some i)
    (h : ev_G p l e R s m args below meth c Q D cl tys A ex al0 nL (pc + 1, L, ev_at d wr i :: S, w, k, n)) : ev_G p l e R s m args below meth c Q D cl tys A ex al0 nL (pc, L, x :: .inl (.ref q) :: S, w, k, n) := by
  intro al ws H locs ls lv st h1 h2 h3 h4 h5 h6 h7 h8
  obtain ⟨vx, st0, rfl, g8, g9⟩ := ev_st_cons h8
  obtain ⟨va, st1, rfl, ⟨a, g0, rfl⟩, g2⟩ := ev_st_cons g9
  obtain ⟨z, rfl, g6, g7, g10⟩ := ev_ix_some hi
  have e : vx = .int z := g8
  subst e
  obtain ⟨E, g3, cA, ty, g4, f, rfl, g5⟩ := ev_w_get h2 hw g0
  cases ev_ty hT g4
  have go := h al ws H locs ls lv (.int (f i) :: st1) h1 h2 h3 h4 h5 h6 h7 ⟨g5 i g10, g2⟩
  rw [← g7] at go
  exact va_bald hx hb hK h3 q 1 g3 g4 g6 hd go
theorem es_ald2 {q N i : Nat} {x d : ev_V} {wr : List (Nat × ev_V)} (hx : p.tables.exec = Jvm.exec) (hb : c.code = cc) (hd : decode cc pc = .ok (.laload, 1)) (hK : va_K D cl tys s) (hT : tys.map Prod.snd = ev_tys) (hw : w[q]? = some (.inr (2, N, d, wr))) (hi : ev_ix N x = some i)
    (h : ev_G p l e R s m args below meth c Q D cl tys A ex al0 nL (pc + 1, L, ev_at d wr i :: S, w, k, n)) : ev_G p l e R s m args below meth c Q D cl tys A ex al0 nL (pc, L, x :: .inl (.ref q) :: S, w, k, n) := by
  intro al ws H locs ls lv st h1 h2 h3 h4 h5 h6 h7 h8
  obtain ⟨vx, st0, rfl, g8, g9⟩ := ev_st_cons h8
  obtain ⟨va, st1, rfl, ⟨a, g0, rfl⟩, g2⟩ := ev_st_cons g9
  obtain ⟨z, rfl, g6, g7, g10⟩ := ev_ix_some hi
  have e : vx = .int z := g8
  subst e
  obtain ⟨E, g3, cA, ty, g4, f, rfl, g5⟩ := ev_w_get h2 hw g0
  cases ev_ty hT g4
  have go := h al ws H locs ls lv (.long (f i) :: st1) h1 h2 h3 h4 h5 h6 h7 ⟨g5 i g10, g2⟩
  rw [← g7] at go
  exact va_lald hx hb hK h3 q 2 g3 g4 g6 hd go
theorem ev_at_cons {d r : ev_V} {wr : List (Nat × ev_V)} {i j : Nat} : ev_at d ((i, r) :: wr) j = if i = j then r else ev_at d wr j := by
  by_cases e : i = j
  · subst e
    simp [ev_at, ev_look]
  · have e2 : Nat.beq i j = false := by
      cases hq : Nat.beq i j with
      | false => rfl
      | true => exact absurd (Nat.eq_of_beq_eq_true hq) e
    simp [ev_at, ev_look, e2, e]
theorem es_ast0 {q N i : Nat} {v x d r : ev_V} {wr : List (Nat × ev_V)} (hx : p.tables.exec = Jvm.exec) (hb : c.code = cc) (hd : decode cc pc = .ok (.iastore, 1)) (hK : va_K D cl tys s) (hT : tys.map Prod.snd = ev_tys) (hw : w[q]? = some (.inr (0, N, d, wr))) (hi : ev_ix N x = some i) (hr : ev_put 0 v = some r)
    (h : ev_G p l e R s m args below meth c Q D cl tys A ex al0 nL (pc + 1, L, S, w.set q (.inr (0, N, d, (i, r) :: wr)), k, n)) : ev_G p l e R s m args below meth c Q D cl tys A ex al0 nL (pc, L, v :: x :: .inl (.ref q) :: S, w, k, n) := by
  intro al ws H locs ls lv st h1 h2 h3 h4 h5 h6 h7 h8
  obtain ⟨v', st00, rfl, g80, g90⟩ := ev_st_cons h8
  obtain ⟨vx, st0, rfl, g8, g9⟩ := ev_st_cons g90
  obtain ⟨va, st1, rfl, ⟨a, g0, rfl⟩, g2⟩ := ev_st_cons g9
  obtain ⟨z, rfl, g6, g7, g10⟩ := ev_ix_some hi
  have e : vx = .int z := g8
  subst e
  obtain ⟨E, g3, cA, ty, g4, f, rfl, g5⟩ := ev_w_get h2 hw g0
  cases ev_ty hT g4
  cases hI : ev_isI v with
  | false => simp [ev_put, hI] at hr
  | true =>
    simp [ev_put, hI] at hr
    subst hr
    obtain ⟨y, rfl⟩ := ev_rel_I hI g80
    refine va_iast hx hb hK h3 h4 h5 q 0 g3 g4 g6 hd fun H1 locs1 i1 i2 i3 => ?_
    refine h al _ H1 locs1 ls lv st1 h1 (ev_w_set h2 g0 ⟨cA, _, g4, _, rfl, fun j hj => ?_⟩) i1 i2 i3 h6 h7 g2
    rw [ev_at_cons]
    by_cases e : i = j
    · subst e
      rw [if_pos rfl, g7]
      simpa [upd] using g80
    · rw [if_neg e]
      have : upd f z.toNatClampNeg y j = f j := by simp [upd, g7, Ne.symm e]
      rw [this]
      exact g5 j hj
theorem es_ast1 {q N i : Nat} {v x d r : ev_V} {wr : List (Nat × ev_V)} (hx : p.tables.exec = Jvm.exec) (hb : c.code = cc) (hd : decode cc pc = .ok (.bastore, 1)) (hK : va_K D cl tys s) (hT : tys.map Prod.snd = ev_tys) (hw : w[q]? = some (.inr (1, N, d, wr))) (hi : ev_ix N x = some i) (hr : ev_put 1 v = some r)
    (h : ev_G p l e R s m args below meth c Q D cl tys A ex al0 nL (pc + 1, L, S, w.set q (.inr (1, N, d, (i, r) :: wr)), k, n)) : ev_G p l e R s m args below meth c Q D cl tys A ex al0 nL (pc, L, v :: x :: .inl (.ref q) :: S, w, k, n) := by
  intro al ws H locs ls lv st h1 h2 h3 h4 h5 h6 h7 h8
  obtain ⟨v', st00, rfl, g80, g90⟩ := ev_st_cons h8
  obtain ⟨vx, st0, rfl, g8, g9⟩ := ev_st_cons g90
  obtain ⟨va, st1, rfl, ⟨a, g0, rfl⟩, g2⟩ := ev_st_cons g9
  obtain ⟨z, rfl, g6, g7, g10⟩ := ev_ix_some hi
  have e : vx = .int z := g8
  subst e
  obtain ⟨E, g3, cA, ty, g4, f, rfl, g5⟩ := ev_w_get h2 hw g0
  cases ev_ty hT g4
  cases hI : ev_isI v with
  | false => simp [ev_put, hI] at hr
  | true =>
    simp [ev_put, hI] at hr
    subst hr
    obtain ⟨y, rfl⟩ := ev_rel_I hI g80
    have hby : ev_rel al ex (ev_byte v) (.int (vp_nar .byte y)) := by
      unfold ev_byte
      split
      · rename_i y2 hy2
        rw [ev_int_some hy2] at g80
        cases g80
        rfl
      · exact ev_top_rel _
    refine va_bast hx hb hK h3 h4 h5 q 1 g3 g4 g6 hd fun H1 locs1 i1 i2 i3 => ?_
    refine h al _ H1 locs1 ls lv st1 h1 (ev_w_set h2 g0 ⟨cA, _, g4, _, rfl, fun j hj => ?_⟩) i1 i2 i3 h6 h7 g2
    rw [ev_at_cons]
    by_cases e : i = j
    · subst e
      rw [if_pos rfl, g7]
      simpa [upd] using hby
    · rw [if_neg e]
      have : upd f z.toNatClampNeg (vp_nar .byte y) j = f j := by simp [upd, g7, Ne.symm e]
      rw [this]
      exact g5 j hj
theorem es_ast2 {q N i : Nat} {x d : ev_V} {y : Int64} {wr : List (Nat × ev_V)} (hx : p.tables.exec = Jvm.exec) (hb : c.code = cc) (hd : decode cc pc = .ok (.lastore, 1)) (hK : va_K D cl tys s) (hT : tys.map Prod.snd = ev_tys) (hw : w[q]? = some (.inr (2, N, d, wr))) (hi : ev_ix N x = some i)
    (h : ev_G p l e R s m args below meth c Q D cl tys A ex al0 nL (pc + 1, L, S, w.set q (.inr (2, N, d, (i, .inl (.long y)) :: wr)), k, n)) : ev_G p l e R s m args below meth c Q D cl tys A ex al0 nL (pc, L, .inl (.long y) :: x :: .inl (.ref q) :: S, w, k, n) := by
  intro al ws H locs ls lv st h1 h2 h3 h4 h5 h6 h7 h8
  obtain ⟨v', st00, rfl, g80, g90⟩ := ev_st_cons h8
  obtain ⟨vx, st0, rfl, g8, g9⟩ := ev_st_cons g90
  obtain ⟨va, st1, rfl, ⟨a, g0, rfl⟩, g2⟩ := ev_st_cons g9
  obtain ⟨z, rfl, g6, g7, g10⟩ := ev_ix_some hi
  have e : vx = .int z := g8
  subst e
  have e : v' = .long y := g80
  subst e
  obtain ⟨E, g3, cA, ty, g4, f, rfl, g5⟩ := ev_w_get h2 hw g0
  cases ev_ty hT g4
  refine va_last hx hb hK h3 h4 h5 q 2 g3 g4 g6 hd fun H1 locs1 i1 i2 i3 => ?_
  refine h al _ H1 locs1 ls lv st1 h1 (ev_w_set h2 g0 ⟨cA, _, g4, _, rfl, fun j hj => ?_⟩) i1 i2 i3 h6 h7 g2
  rw [ev_at_cons]
  by_cases e : i = j
  · subst e
    rw [if_pos rfl, g7]
    simp [vp_updL, ev_rel]
  · rw [if_neg e]
    have : vp_updL f z.toNatClampNeg y j = f j := by simp [vp_updL, g7, Ne.symm e]
    rw [this]
    exact g5 j hj
theorem es_ald8 {q N i : Nat} {x d : ev_V} {wr : List (Nat × ev_V)} (hx : p.tables.exec = Jvm.exec) (hb : c.code = cc) (hd : decode cc pc = .ok (.baload, 1)) (hK : va_K D cl tys s) (hT : tys.map Prod.snd = ev_tys) (hw : w[q]? = some (.inr (8, N, d, wr))) (hi : ev_ix N x = some i)
    (h : ev_G p l e R s m args below meth c Q D cl tys A ex al0 nL (pc + 1, L, ev_at d wr i :: S, w, k, n)) : ev_G p l e R s m args below meth c Q D cl tys A ex al0 nL (pc, L, x :: .inl (.ref q) :: S, w, k, n) := by
  intro al ws H locs ls lv st h1 h2 h3 h4 h5 h6 h7 h8
  obtain ⟨vx, st0, rfl, g8, g9⟩ := ev_st_cons h8
  obtain ⟨va, st1, rfl, ⟨a, g0, rfl⟩, g2⟩ := ev_st_cons g9
  obtain ⟨z, rfl, g6, g7, g10⟩ := ev_ix_some hi
  have e : vx = .int z := g8
  subst e
  obtain ⟨E, g3, cA, ty, g4, f, rfl, g5⟩ := ev_w_get h2 hw g0
  cases ev_ty hT g4
  have go := h al ws H locs ls lv (.int (f i) :: st1) h1 h2 h3 h4 h5 h6 h7 ⟨g5 i g10, g2⟩
  rw [← g7] at go
  exact va_zald hx hb hK h3 q 8 g3 g4 g6 hd go
theorem es_ast8 {q N i : Nat} {v x d : ev_V} {wr : List (Nat × ev_V)} (hx : p.tables.exec = Jvm.exec) (hb : c.code = cc) (hd : decode cc pc = .ok (.bastore, 1)) (hK : va_K D cl tys s) (hT : tys.map Prod.snd = ev_tys) (hw : w[q]? = some (.inr (8, N, d, wr))) (hi : ev_ix N x = some i) (hv : ev_bit v = true)
    (h : ev_G p l e R s m args below meth c Q D cl tys A ex al0 nL (pc + 1, L, S, w.set q (.inr (8, N, d, (i, v) :: wr)), k, n)) : ev_G p l e R s m args below meth c Q D cl tys A ex al0 nL (pc, L, v :: x :: .inl (.ref q) :: S, w, k, n) := by
  intro al ws H locs ls lv st h1 h2 h3 h4 h5 h6 h7 h8
  obtain ⟨v', st00, rfl, g80, g90⟩ := ev_st_cons h8
  obtain ⟨vx, st0, rfl, g8, g9⟩ := ev_st_cons g90
  obtain ⟨va, st1, rfl, ⟨a, g0, rfl⟩, g2⟩ := ev_st_cons g9
  obtain ⟨z, rfl, g6, g7, g10⟩ := ev_ix_some hi
  have e : vx = .int z := g8
  subst e
  obtain ⟨E, g3, cA, ty, g4, f, rfl, g5⟩ := ev_w_get h2 hw g0
  cases ev_ty hT g4
  have hvv : ∃ y : Int32, v = .inl (.int y) ∧ vp_nar .boolean y = y := by
    rcases v with (y | o)
    · cases y with
      | int y =>
        simp [ev_bit] at hv
        rcases hv with rfl | rfl
        · exact ⟨0, rfl, by decide +kernel⟩
        · exact ⟨1, rfl, by decide +kernel⟩
      | _ => simp [ev_bit] at hv
    · simp [ev_bit] at hv
  obtain ⟨y, rfl, hny⟩ := hvv
  have e : v' = .int y := g80
  subst e
  refine va_zast hx hb hK h3 h4 h5 q 8 g3 g4 g6 hd fun H1 locs1 i1 i2 i3 => ?_
  refine h al _ H1 locs1 ls lv st1 h1 (ev_w_set h2 g0 ⟨cA, _, g4, _, rfl, fun j hj => ?_⟩) i1 i2 i3 h6 h7 g2
  rw [ev_at_cons]
  by_cases e : i = j
  · subst e
    rw [if_pos rfl, g7, hny]
    simp [upd, ev_rel]
  · rw [if_neg e]
    have : upd f z.toNatClampNeg (vp_nar .boolean y) j = f j := by simp [upd, g7, Ne.symm e]
    rw [this]
    exact g5 j hj
end EvHeap
