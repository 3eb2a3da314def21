/-! The evaluator's steps: new objects and arrays; outer objects (String constants, the script) -/
section EvNew
variable {p : Program} {l : Launch} {e : Env} {R : Room} {s : State} {m : MethodId} {args : Array Value} {below : List Frame} {meth : Method} {c : Code} {Q : State → Prop} {D : va_G} {cl : List vw_C} {tys : List (ClassId × FieldType)} {A : Nat → Prop} {ex : Nat → Nat} {al0 : List Nat} {nL : Nat}
variable {pc k n : Nat} {L : List (Nat × ev_V)} {S : List ev_V} {w : List ev_C} {cc : ByteArray} {own : String} {Ts : List Cond}
theorem ev_len {al : List Nat} {ws : va_W} (h : ev_w al ex tys w ws) : al.length = w.length := by rw [← h.1, List.length_map, h.2.1]
/-- a new array of numbers -/
theorem es_newa {atype : ArrayType} {t N : Nat} {i : Int32} (hx : p.tables.exec = Jvm.exec) (hb : c.code = cc) (hd : decode cc pc = .ok (.newarray atype, 2)) (harr : (Cond.arrayClass (newarray.typeOf atype)).before args s = true) (hK : va_K D cl tys s) (hT : tys.map Prod.snd = ev_tys) (hA : ∀ q, s.heap.size ≤ q → A q)
    (ht : t < 3 ∨ t = 8) (hty : ev_tys[t]? = some (newarray.typeOf atype)) (hi : ¬ i < 0) (hN : i.toNatClampNeg = N) (hby : N * ev_bytes t ≤ 536870912) (hcells : k + 1 ≤ R.cells) (hslots : n + N ≤ R.slots)
    (h : ev_G p l e R s m args below meth c Q D cl tys A ex al0 nL (pc + 2, L, .inl (.ref w.length) :: S, w ++ [.inr (t, N, ev_dflt t, [])], k + 1, n + N)) : ev_G p l e R s m args below meth c Q D cl tys A ex al0 nL (pc, L, .inl (.int i) :: S, w, k, n) := by
  intro al ws H locs ls lv st h1 h2 h3 h4 h5 h6 h7 h8
  obtain ⟨va, st1, rfl, g1, g2⟩ := ev_st_cons h8
  have g1 : va = .int i := g1
  subst g1
  obtain ⟨ct, hct⟩ : ∃ ct, tys[t]? = some (ct, newarray.typeOf atype) := by
    have : (tys.map Prod.snd)[t]? = some (newarray.typeOf atype) := by rw [hT]; exact hty
    rw [List.getElem?_map] at this
    cases hq : tys[t]? with
    | none => rw [hq] at this; cases this
    | some z =>
      rw [hq] at this
      obtain ⟨z1, z2⟩ := z
      cases this
      exact ⟨z1, rfl⟩
  have key : ∀ (q : Nat) (cA : ClassId) (H1 : Heap) (a0 : vp_A), ev_arr (al ++ [q]) ex ct t N (ev_dflt t) [] (.inl (ct, a0)) → va_K D cl (tys ++ [(cA, newarray.typeOf atype)]) s → va_P D cl (ws ++ [(q, .inl (cA, a0))]) H1 → va_D A (ws ++ [(q, .inl (cA, a0))]) → va_S A s.heap H1 locs →
      W p l e R s m args below meth c H1 locs (k + 1) (n + N) Q (F0 m (pc + 2) ls (.ref q :: st1)) := by
    intro q cA H1 a0 harr' i1 i2 i3 i4
    have e1 := (i1.2 tys.length (cA, newarray.typeOf atype) (by simp)).2
    have e2 := (hK.2 t _ hct).2
    have e3 : cA = ct := by
      cases atype <;> exact Option.some.inj (e1.symm.trans e2)
    subst e3
    refine h (al ++ [q]) _ H1 locs ls lv (.ref q :: st1) (h1.trans (List.prefix_append _ _)) (ev_w_push h2 q ⟨cA, _, hct, harr'⟩) i2 i3 i4 h6 (ev_lv.mono (List.prefix_append _ _) h7) ⟨⟨q, ?_, rfl⟩, ev_st.mono (List.prefix_append _ _) g2⟩
    rw [← ev_len h2]
    simp
  have hcase : t = 0 ∨ t = 1 ∨ t = 2 ∨ t = 8 := by omega
  rcases hcase with rfl | rfl | rfl | rfl
  · have e : newarray.typeOf atype = .int := by simpa [ev_tys] using hty.symm
    refine va_newa (a0 := (N, .inl (fun _ => 0))) hx hb harr e hK h3 h4 h5 hA (fun cA => rfl) hi hN (by simpa [ev_bytes, componentBytes] using hby) hcells hslots hd fun q cA H1 i1 i2 i3 i4 => ?_
    exact key q cA H1 _ ⟨_, rfl, fun i _ => rfl⟩ (by rw [e]; exact i1) i2 i3 i4
  · have e : newarray.typeOf atype = .byte := by simpa [ev_tys] using hty.symm
    refine va_newa (a0 := (N, .inl (fun _ => 0))) hx hb harr e hK h3 h4 h5 hA (fun cA => rfl) hi hN (by simpa [ev_bytes, componentBytes] using hby) hcells hslots hd fun q cA H1 i1 i2 i3 i4 => ?_
    exact key q cA H1 _ ⟨_, rfl, fun i _ => rfl⟩ (by rw [e]; exact i1) i2 i3 i4
  · have e : newarray.typeOf atype = .long := by simpa [ev_tys] using hty.symm
    refine va_newa (a0 := (N, .inr (.inl (fun _ => 0)))) hx hb harr e hK h3 h4 h5 hA (fun cA => rfl) hi hN (by simpa [ev_bytes, componentBytes] using hby) hcells hslots hd fun q cA H1 i1 i2 i3 i4 => ?_
    exact key q cA H1 _ ⟨_, rfl, fun i _ => rfl⟩ (by rw [e]; exact i1) i2 i3 i4
  · have e : newarray.typeOf atype = .boolean := by simpa [ev_tys] using hty.symm
    refine va_newa (a0 := (N, .inl (fun _ => 0))) hx hb harr e hK h3 h4 h5 hA (fun cA => rfl) hi hN (by simpa [ev_bytes, componentBytes] using hby) hcells hslots hd fun q cA H1 i1 i2 i3 i4 => ?_
    exact key q cA H1 _ ⟨_, rfl, fun i _ => rfl⟩ (by rw [e]; exact i1) i2 i3 i4
/-- a new array of references -/
theorem es_newq {index t N : Nat} {C : String} {i : Int32} (hx : p.tables.exec = Jvm.exec) (hb : c.code = cc) (hd : decode cc pc = .ok (.anewarray index, 3)) (hown : s.vm.findClass own = some m.cls) (hcl : (Cond.classLink own index C).before args s = true) (hover : va_AO C s) (hK : va_K D cl tys s) (hT : tys.map Prod.snd = ev_tys) (hA : ∀ q, s.heap.size ≤ q → A q)
    (ht : 2 < t) (ht8 : t ≠ 8) (hty : ev_tys[t]? = some (.object C)) (hi : ¬ i < 0) (hN : i.toNatClampNeg = N) (hby : N * ev_bytes t ≤ 536870912) (hcells : k + 1 ≤ R.cells) (hslots : n + N ≤ R.slots)
    (h : ev_G p l e R s m args below meth c Q D cl tys A ex al0 nL (pc + 3, L, .inl (.ref w.length) :: S, w ++ [.inr (t, N, ev_dflt t, [])], k + 1, n + N)) : ev_G p l e R s m args below meth c Q D cl tys A ex al0 nL (pc, L, .inl (.int i) :: S, w, k, n) := by
  intro al ws H locs ls lv st h1 h2 h3 h4 h5 h6 h7 h8
  obtain ⟨va, st1, rfl, g1, g2⟩ := ev_st_cons h8
  have g1 : va = .int i := g1
  subst g1
  obtain ⟨ct, hct⟩ : ∃ ct, tys[t]? = some (ct, .object C) := by
    have : (tys.map Prod.snd)[t]? = some (.object C) := by rw [hT]; exact hty
    rw [List.getElem?_map] at this
    cases hq : tys[t]? with
    | none => rw [hq] at this; cases this
    | some z =>
      rw [hq] at this
      obtain ⟨z1, z2⟩ := z
      cases this
      exact ⟨z1, rfl⟩
  have hb4 : ev_bytes t = 4 := by unfold ev_bytes; split <;> first | omega | rfl
  rw [hb4] at hby
  have hfresh : ∀ (q N : Nat) (cA : ClassId), ev_arr (al ++ [q]) ex cA t N (ev_dflt t) [] (.inl (cA, N, .inr (.inr (.inr (.inr (fun _ => none)))))) := by
    intro q N cA
    have hd0 : ev_dflt t = .inl .null := by unfold ev_dflt; split <;> first | omega | rfl
    rw [hd0]
    unfold ev_arr
    split
    · omega
    · omega
    · omega
    · omega
    · exact ⟨fun _ => none, rfl, fun i _ => rfl⟩
  refine va_newq hx hb hown hcl hover hK h3 h4 h5 hA hi hN hby hcells hslots hd fun q cA H1 i1 i2 i3 i4 => ?_
  have e1 := (i1.2 tys.length (cA, .object C) (by simp)).2
  have e2 := (hK.2 t _ hct).2
  have e3 : cA = ct := by
    obtain ⟨_, _, _, _, _, z1⟩ := e1
    obtain ⟨_, _, _, _, _, z2⟩ := e2
    exact Option.some.inj (z1.symm.trans z2)
  subst e3
  refine h (al ++ [q]) _ H1 locs ls lv (.ref q :: st1) (h1.trans (List.prefix_append _ _)) (ev_w_push h2 q ⟨cA, _, hct, hfresh _ _ _⟩) i2 i3 i4 h6 (ev_lv.mono (List.prefix_append _ _) h7) ⟨⟨q, ?_, rfl⟩, ev_st.mono (List.prefix_append _ _) g2⟩
  rw [← ev_len h2]
  simp
/-- a new array of arrays of numbers -/
theorem es_newA {index t N : Nat} {ft : FieldType} {i : Int32} (hx : p.tables.exec = Jvm.exec) (hb : c.code = cc) (hd : decode cc pc = .ok (.anewarray index, 3)) (hown : s.vm.findClass own = some m.cls) (hcl : (Cond.classLink own index (FieldType.array ft).toString).before args s = true) (hover : (Cond.arrayOver (.array ft)).before args s = true) (hK : va_K D cl tys s) (hT : tys.map Prod.snd = ev_tys) (hA : ∀ q, s.heap.size ≤ q → A q)
    (ht : 2 < t) (ht8 : t ≠ 8) (hty : ev_tys[t]? = some (.array ft)) (hi : ¬ i < 0) (hN : i.toNatClampNeg = N) (hby : N * ev_bytes t ≤ 536870912) (hcells : k + 1 ≤ R.cells) (hslots : n + N ≤ R.slots)
    (h : ev_G p l e R s m args below meth c Q D cl tys A ex al0 nL (pc + 3, L, .inl (.ref w.length) :: S, w ++ [.inr (t, N, ev_dflt t, [])], k + 1, n + N)) : ev_G p l e R s m args below meth c Q D cl tys A ex al0 nL (pc, L, .inl (.int i) :: S, w, k, n) := by
  intro al ws H locs ls lv st h1 h2 h3 h4 h5 h6 h7 h8
  obtain ⟨va, st1, rfl, g1, g2⟩ := ev_st_cons h8
  have g1 : va = .int i := g1
  subst g1
  obtain ⟨ct, hct⟩ : ∃ ct, tys[t]? = some (ct, .array ft) := by
    have : (tys.map Prod.snd)[t]? = some (.array ft) := by rw [hT]; exact hty
    rw [List.getElem?_map] at this
    cases hq : tys[t]? with
    | none => rw [hq] at this; cases this
    | some z =>
      rw [hq] at this
      obtain ⟨z1, z2⟩ := z
      cases this
      exact ⟨z1, rfl⟩
  have hb4 : ev_bytes t = 4 := by unfold ev_bytes; split <;> first | omega | rfl
  rw [hb4] at hby
  have hfresh : ∀ (q N : Nat) (cA : ClassId), ev_arr (al ++ [q]) ex cA t N (ev_dflt t) [] (.inl (cA, N, .inr (.inr (.inr (.inr (fun _ => none)))))) := by
    intro q N cA
    have hd0 : ev_dflt t = .inl .null := by unfold ev_dflt; split <;> first | omega | rfl
    rw [hd0]
    unfold ev_arr
    split
    · omega
    · omega
    · omega
    · omega
    · exact ⟨fun _ => none, rfl, fun i _ => rfl⟩
  subst hN
  refine W.anewA hx hb hown hcl hover rfl hd rfl hi hby hcells hslots fun cA kA comp f1 f2 f3 f4 => ?_
  have e2 : s.vm.findClass ("[" ++ (FieldType.array ft).toString) = some ct := (hK.2 t _ hct).2
  have e3 : ct = cA := Option.some.inj (e2.symm.trans f1)
  rw [e3] at hct
  generalize hH1 : H.push ({ cls := cA, slots := Array.replicate i.toNatClampNeg .null, vm := .none } : Cell) = H1
  have z1 : H1.size = H.size + 1 := by rw [← hH1, Array.size_push]
  have ee : H1[H.size]? = some (arrV cA i.toNatClampNeg (fun _ => .null)) := by rw [← hH1, Array.getElem?_push_size, ← arrV_new]
  have o1 : ∀ q : Nat, q < H.size → H1[q]? = H[q]? := fun q hq => by rw [← hH1, Array.getElem?_push, if_neg (Nat.ne_of_lt hq)]
  have hk : ∀ (k : Nat) (x : Nat × va_E), ws[k]? = some x → H1[x.1]? = H[x.1]? := fun k x hx => o1 x.1 ((h3 k x hx).lt)
  refine h (al ++ [H.size]) (ws ++ [(H.size, .inl (cA, i.toNatClampNeg, .inr (.inr (.inr (.inr (fun _ => none))))))]) H1 locs ls lv (.ref H.size :: st1) (h1.trans (List.prefix_append _ _)) (ev_w_push h2 H.size ⟨cA, _, hct, hfresh _ _ _⟩) ?_ ?_ ?_ h6 (ev_lv.mono (List.prefix_append _ _) h7) ⟨⟨H.size, ?_, rfl⟩, ev_st.mono (List.prefix_append _ _) g2⟩
  · refine (h3.kept hk).app (fun k x hx => ?_)
    have hz : k < 1 := (List.getElem?_eq_some_iff.mp hx).1
    rw [show k = 0 by omega] at hx
    cases hx
    show H1[H.size]? = some (vp_cell _ _)
    rw [vp_cell_q]
    exact ee
  · exact h4.push h3 rfl (hA _ h5.1)
  · exact ⟨Nat.le_trans h5.1 (by omega), fun x g1 g2 => (o1 x (Nat.lt_of_lt_of_le g1 h5.1)).trans (h5.2.1 x g1 g2), h5.2.2⟩
  · rw [← ev_len h2]
    simp
/-- a new object -/
theorem es_new {index ci N : Nat} {C : String} {T : u_T} {fs : List ev_V} {vs : List Value} (hx : p.tables.exec = Jvm.exec) (hb : c.code = cc) (hd : decode cc pc = .ok (.new index, 3)) (hts : ∀ w ∈ Ts, w.before args s = true) (hin : ∀ w ∈ u_ws C T N, w ∈ Ts) (ty : Nat → FieldType) (hty : ∀ j, j < N → parseFieldDescriptor (T j).2.2.1 = some (ty j)) (hown : s.vm.findClass own = some m.cls) (hcl : (Cond.classLink own index C).before args s = true) (hinst : (Cond.instantiable C N).before args s = true) (hini : (Cond.initialized C).before args s = true)
    (hK : va_K D cl tys s) (hA : ∀ q, s.heap.size ≤ q → A q) (hc : cl[ci]? = some (C, T, N)) (hvs : ∀ j, j < N → defaultValue (ty j) = vp_V vs j) (hfs : ∀ al, ev_st al ex fs vs) (hN : fs.length = N) (hcells : k + 1 ≤ R.cells) (hslots : n + fs.length ≤ R.slots)
    (h : ev_G p l e R s m args below meth c Q D cl tys A ex al0 nL (pc + 3, L, .inl (.ref w.length) :: S, w ++ [.inl (ci, fs)], k + 1, n + fs.length)) : ev_G p l e R s m args below meth c Q D cl tys A ex al0 nL (pc, L, S, w, k, n) := by
  intro al ws H locs ls lv st h1 h2 h3 h4 h5 h6 h7 h8
  subst hN
  refine va_new hx hb hts hin ty hty hown hcl hinst hini hK h3 h4 h5 hA hc hvs hcells hslots hd fun q H1 i2 i3 i4 => ?_
  refine h (al ++ [q]) _ H1 locs ls lv (.ref q :: st) (h1.trans (List.prefix_append _ _)) (ev_w_push h2 q ⟨vs, rfl, hfs _⟩) i2 i3 i4 h6 (ev_lv.mono (List.prefix_append _ _) h7) ⟨⟨q, ?_, rfl⟩, ev_st.mono (List.prefix_append _ _) h8⟩
  rw [← ev_len h2]
  simp
/-- a switch over a run of numbers -/
theorem es_tab {dflt lo hi : Int} {offs : Array Int} {len : Nat} {x : Int32} {tgt : Nat} (hx : p.tables.exec = Jvm.exec) (hb : c.code = cc) (hd : decode cc pc = .ok (.tableswitch dflt lo hi offs, len))
    (ht : ((x.toInt < lo ∨ hi < x.toInt) ∧ (pc : Int) + dflt = (tgt : Int)) ∨ (¬ x.toInt < lo ∧ ¬ hi < x.toInt ∧ ∃ off, offs[(x.toInt - lo).toNat]? = some off ∧ (pc : Int) + off = (tgt : Int)))
    (h : ev_G p l e R s m args below meth c Q D cl tys A ex al0 nL (tgt, L, S, w, k, n)) : ev_G p l e R s m args below meth c Q D cl tys A ex al0 nL (pc, L, .inl (.int x) :: S, w, k, n) := by
  intro al ws H locs ls lv st h1 h2 h3 h4 h5 h6 h7 h8
  obtain ⟨va, st1, rfl, g1, g2⟩ := ev_st_cons h8
  have g1 : va = .int x := g1
  subst g1
  have go := h al ws H locs ls lv st1 h1 h2 h3 h4 h5 h6 h7 g2
  rcases ht with ⟨q1, q2⟩ | ⟨q1, q2, off, q3, q4⟩
  · exact lv_tableOut hx hb hd q1 q2 go
  · exact lv_tableIn hx hb hd q1 q2 q3 q4 go
theorem ev_lk_ok {pc d : Nat} {dflt x : Int} (hd : (pc : Int) + dflt = (d : Int)) : ∀ (ps : List (Int × Int)) (ts : List Nat), ps.map (fun q => (pc : Int) + q.2) = ts.map (fun t : Nat => (t : Int)) → (pc : Int) + Op.lookupswitch.offset ps dflt x = (ev_lk x (ps.map Prod.fst) ts d : Nat)
  | [], [], _ => hd
  | (a, o) :: ps, t :: ts, h => by
    simp only [List.map_cons, List.cons.injEq] at h
    rw [Op.lookupswitch.offset_cons]
    show _ = ((bif decide (a = x) then t else ev_lk x (ps.map Prod.fst) ts d : Nat) : Int)
    by_cases e : a = x
    · rw [if_pos e, decide_eq_true e]
      exact h.1
    · rw [if_neg e, decide_eq_false e]
      exact ev_lk_ok hd ps ts h.2
  | [], t :: ts, h => by simp at h
  | a :: ps, [], h => by simp at h
theorem es_lk {dflt : Int} {ps : Array (Int × Int)} {len d : Nat} {ts : List Nat} {x : Int32} (hx : p.tables.exec = Jvm.exec) (hb : c.code = cc) (hd : decode cc pc = .ok (.lookupswitch dflt ps, len)) (hp : (ps.toList.zip (ps.toList.drop 1)).all (fun (a, next) => a.1 < next.1) = true)
    (h1 : (pc : Int) + dflt = (d : Int)) (h2 : ps.toList.map (fun q => (pc : Int) + q.2) = ts.map (fun t : Nat => (t : Int)))
    (h : ev_G p l e R s m args below meth c Q D cl tys A ex al0 nL (ev_lk x.toInt (ps.toList.map Prod.fst) ts d, L, S, w, k, n)) : ev_G p l e R s m args below meth c Q D cl tys A ex al0 nL (pc, L, .inl (.int x) :: S, w, k, n) := by
  intro al ws H locs ls lv st i1 i2 i3 i4 i5 i6 i7 i8
  obtain ⟨va, st1, rfl, g1, g2⟩ := ev_st_cons i8
  have g1 : va = .int x := g1
  subst g1
  exact lv_lookup hx hb hd hp rfl (ev_lk_ok h1 ps.toList ts h2) (h al ws H locs ls lv st1 i1 i2 i3 i4 i5 i6 i7 g2)
/-- a String constant stored into an array of Strings -/
theorem es_ast3 {q N i j : Nat} {x d : ev_V} {wr : List (Nat × ev_V)} (hx : p.tables.exec = Jvm.exec) (hb : c.code = cc) (hd : decode cc pc = .ok (.aastore, 1)) (hK : va_K D cl tys s) (hT : tys.map Prod.snd = ev_tys) (hO : va_O "java/lang/String" (ex j) A s s.heap) (hw : w[q]? = some (.inr (3, N, d, wr))) (hi : ev_ix N x = some i)
    (h : ev_G p l e R s m args below meth c Q D cl tys A ex al0 nL (pc + 1, L, S, w.set q (.inr (3, N, d, (i, .inl (.retAddr j)) :: wr)), k, n)) : ev_G p l e R s m args below meth c Q D cl tys A ex al0 nL (pc, L, .inl (.retAddr j) :: x :: .inl (.ref q) :: S, w, k, n) := by
  intro al ws H locs ls lv st h1 h2 h3 h4 h5 h6 h7 h8
  obtain ⟨v', st00, rfl, g80, g90⟩ := ev_st_cons h8
  obtain ⟨vx, st0, rfl, g8, g9⟩ := ev_st_cons g90
  obtain ⟨va, st1, rfl, ⟨a, g0, rfl⟩, g2⟩ := ev_st_cons g9
  obtain ⟨z, rfl, g6, g7, g10⟩ := ev_ix_some hi
  have e : vx = .int z := g8
  subst e
  have e : v' = .ref (ex j) := g80
  subst e
  obtain ⟨E, g3, cA, ty, g4, f, rfl, g5⟩ := ev_w_get h2 hw g0
  cases ev_ty hT g4
  obtain ⟨cell, c1, c2, c3⟩ := va_Orecv hO h5
  obtain ⟨kC, hkC, -⟩ := Vm.findClass_spec c3
  have hany : va_Any "java/lang/String" s H (ex j) := ⟨cell, c1, c2, ⟨kC, hkC⟩, fun comp hq => by
    cases c3.symm.trans hq
    exact va_asg _ _⟩
  refine va_astqM hx hb hK h3 h4 h5 q 3 g3 g4 hany g6 hd fun H1 locs1 i1 i2 i3 => ?_
  refine h al _ H1 locs1 ls lv st1 h1 (ev_w_set h2 g0 ⟨cA, _, g4, _, rfl, fun y hy => ?_⟩) i1 i2 i3 h6 h7 g2
  rw [ev_at_cons]
  by_cases e : i = y
  · subst e
    rw [if_pos rfl, g7]
    simp [va_up, va_rf, ev_rel]
  · rw [if_neg e]
    have : va_up f z.toNatClampNeg (some (ex j)) y = f y := by simp [va_up, g7, Ne.symm e]
    rw [this]
    exact g5 y hy
/-- an outer object's field -/
theorem es_getX {index j : Nat} {o nm ds : String} {v : ev_V} {v' : Value} (hx : p.tables.exec = Jvm.exec) (hb : c.code = cc) (hd : decode cc pc = .ok (.getfield index, 3)) (hown : s.vm.findClass own = some m.cls) (hE : va_OF o nm ds v' (ex j) A s s.heap) (hlink : (Cond.fieldLink own index o nm ds).before args s = true) (hv : ∀ al, ev_rel al ex v v')
    (h : ev_G p l e R s m args below meth c Q D cl tys A ex al0 nL (pc + 3, L, v :: S, w, k, n)) : ev_G p l e R s m args below meth c Q D cl tys A ex al0 nL (pc, L, .inl (.retAddr j) :: S, w, k, n) := by
  intro al ws H locs ls lv st h1 h2 h3 h4 h5 h6 h7 h8
  obtain ⟨va, st1, rfl, g1, g2⟩ := ev_st_cons h8
  have g1 : va = .ref (ex j) := g1
  subst g1
  exact vk_getf hx hb hE h5 hown hlink (fun x hq => hq) hd (h al ws H locs ls lv (v' :: st1) h1 h2 h3 h4 h5 h6 h7 ⟨hv al, g2⟩)
theorem es_alenX {j N : Nat} {ty : FieldType} {f : Nat → Value} (hx : p.tables.exec = Jvm.exec) (hb : c.code = cc) (hd : decode cc pc = .ok (.arraylength, 1)) (hE : va_T ty (ex j) N f A s s.heap)
    (h : ev_G p l e R s m args below meth c Q D cl tys A ex al0 nL (pc + 1, L, .inl (.int (Int32.ofNat N)) :: S, w, k, n)) : ev_G p l e R s m args below meth c Q D cl tys A ex al0 nL (pc, L, .inl (.retAddr j) :: S, w, k, n) := by
  intro al ws H locs ls lv st h1 h2 h3 h4 h5 h6 h7 h8
  obtain ⟨va, st1, rfl, g1, g2⟩ := ev_st_cons h8
  have g1 : va = .ref (ex j) := g1
  subst g1
  exact va_tlen hx hb hE h5 rfl hd (h al ws H locs ls lv (_ :: st1) h1 h2 h3 h4 h5 h6 h7 ⟨rfl, g2⟩)
theorem es_aldX {j N i : Nat} {x v : ev_V} {f : Nat → Value} (hx : p.tables.exec = Jvm.exec) (hb : c.code = cc) (hd : decode cc pc = .ok (.baload, 1)) (hE : va_T .byte (ex j) N f A s s.heap) (hi : ev_ix N x = some i) (hv : ∀ al, ev_rel al ex v (f i))
    (h : ev_G p l e R s m args below meth c Q D cl tys A ex al0 nL (pc + 1, L, v :: S, w, k, n)) : ev_G p l e R s m args below meth c Q D cl tys A ex al0 nL (pc, L, x :: .inl (.retAddr j) :: S, w, k, n) := by
  intro al ws H locs ls lv st h1 h2 h3 h4 h5 h6 h7 h8
  obtain ⟨vx, st0, rfl, g8, g9⟩ := ev_st_cons h8
  obtain ⟨va, st1, rfl, g1, g2⟩ := ev_st_cons g9
  have g1 : va = .ref (ex j) := g1
  subst g1
  obtain ⟨z, rfl, g6, g7, g10⟩ := ev_ix_some hi
  have e : vx = .int z := g8
  subst e
  exact va_tb hx hb hE h5 g6 (by rw [g7]) hd (h al ws H locs ls lv (_ :: st1) h1 h2 h3 h4 h5 h6 h7 ⟨hv al, g2⟩)
theorem es_aldXi {j N i : Nat} {x v : ev_V} {f : Nat → Value} (hx : p.tables.exec = Jvm.exec) (hb : c.code = cc) (hd : decode cc pc = .ok (.iaload, 1)) (hE : va_T .int (ex j) N f A s s.heap) (hi : ev_ix N x = some i) (hv : ∀ al, ev_rel al ex v (f i))
    (h : ev_G p l e R s m args below meth c Q D cl tys A ex al0 nL (pc + 1, L, v :: S, w, k, n)) : ev_G p l e R s m args below meth c Q D cl tys A ex al0 nL (pc, L, x :: .inl (.retAddr j) :: S, w, k, n) := by
  intro al ws H locs ls lv st h1 h2 h3 h4 h5 h6 h7 h8
  obtain ⟨vx, st0, rfl, g8, g9⟩ := ev_st_cons h8
  obtain ⟨va, st1, rfl, g1, g2⟩ := ev_st_cons g9
  have g1 : va = .ref (ex j) := g1
  subst g1
  obtain ⟨z, rfl, g6, g7, g10⟩ := ev_ix_some hi
  have e : vx = .int z := g8
  subst e
  exact va_ti hx hb hE h5 g6 (by rw [g7]) hd (h al ws H locs ls lv (_ :: st1) h1 h2 h3 h4 h5 h6 h7 ⟨hv al, g2⟩)
/-- the script's ints -/
theorem es_sld {j N i : Nat} {x v : ev_V} {xs : Nat → Int32} (hx : p.tables.exec = Jvm.exec) (hb : c.code = cc) (hd : decode cc pc = .ok (.iaload, 1)) (hX : va_X (ex j) N xs s s.heap) (hbl : ex j < s.heap.size) (hbA : ¬ A (ex j)) (hi : ev_ix N x = some i) (hv : ∀ al, ev_rel al ex v (.int (xs i)))
    (h : ev_G p l e R s m args below meth c Q D cl tys A ex al0 nL (pc + 1, L, v :: S, w, k, n)) : ev_G p l e R s m args below meth c Q D cl tys A ex al0 nL (pc, L, x :: .inl (.retAddr j) :: S, w, k, n) := by
  intro al ws H locs ls lv st h1 h2 h3 h4 h5 h6 h7 h8
  obtain ⟨vx, st0, rfl, g8, g9⟩ := ev_st_cons h8
  obtain ⟨va, st1, rfl, g1, g2⟩ := ev_st_cons g9
  have g1 : va = .ref (ex j) := g1
  subst g1
  obtain ⟨z, rfl, g6, g7, g10⟩ := ev_ix_some hi
  have e : vx = .int z := g8
  subst e
  have go := h al ws H locs ls lv (.int (xs i) :: st1) h1 h2 h3 h4 h5 h6 h7 ⟨hv al, g2⟩
  rw [← g7] at go
  exact va_sld hx hb hX hbl hbA h5 g6 hd go
theorem es_slen {j N : Nat} {xs : Nat → Int32} (hx : p.tables.exec = Jvm.exec) (hb : c.code = cc) (hd : decode cc pc = .ok (.arraylength, 1)) (hX : va_X (ex j) N xs s s.heap) (hbl : ex j < s.heap.size) (hbA : ¬ A (ex j))
    (h : ev_G p l e R s m args below meth c Q D cl tys A ex al0 nL (pc + 1, L, .inl (.int (Int32.ofNat N)) :: S, w, k, n)) : ev_G p l e R s m args below meth c Q D cl tys A ex al0 nL (pc, L, .inl (.retAddr j) :: S, w, k, n) := by
  intro al ws H locs ls lv st h1 h2 h3 h4 h5 h6 h7 h8
  obtain ⟨va, st1, rfl, g1, g2⟩ := ev_st_cons h8
  have g1 : va = .ref (ex j) := g1
  subst g1
  exact va_slen hx hb hX hbl hbA h5 hd (h al ws H locs ls lv (_ :: st1) h1 h2 h3 h4 h5 h6 h7 ⟨rfl, g2⟩)
end EvNew
