/-! References in arrays -/
section EvRefs
variable {p : Program} {l : Launch} {e : Env} {R : Room} {s : State} {m : MethodId} {args : Array Value} {below : List Frame} {meth : Method} {c : Code} {Q : State → Prop} {D : va_G} {tys : List (ClassId × FieldType)} {A : Nat → Prop} {ex : Nat → Nat} {al0 : List Nat} {nL : Nat}
variable {pc k n : Nat} {L : List (Nat × ev_V)} {S : List ev_V} {w : List ev_C} {cc : ByteArray} {own : String}
theorem ev_arr_ref {al : List Nat} {cA : ClassId} {t N : Nat} {d : ev_V} {wr : List (Nat × ev_V)} {E : va_E} (h3 : 3 ≤ t) (h8 : t ≠ 8) (h : ev_arr al ex cA t N d wr E) : ∃ f : Nat → Option Nat, E = .inl (cA, N, .inr (.inr (.inr (.inr f)))) ∧ ∀ i, i < N → ev_rel al ex (ev_at d wr i) (va_rf (f i)) := by
  unfold ev_arr at h
  split at h
  · omega
  · omega
  · omega
  · omega
  · exact h
theorem ev_arr_of {al : List Nat} {cA : ClassId} {t N : Nat} {d : ev_V} {wr : List (Nat × ev_V)} {f : Nat → Option Nat} (h3 : 3 ≤ t) (h8 : t ≠ 8) (h : ∀ i, i < N → ev_rel al ex (ev_at d wr i) (va_rf (f i))) : ev_arr al ex cA t N d wr (.inl (cA, N, .inr (.inr (.inr (.inr f))))) := by
  unfold ev_arr
  split
  · omega
  · omega
  · omega
  · omega
  · exact ⟨f, rfl, h⟩
theorem ev_tys_ref {t : Nat} {ty : FieldType} (h3 : 3 ≤ t) (h8 : t ≠ 8) (h : ev_tys[t]? = some ty) : ty.isReference = true := by
  have hl := (List.getElem?_eq_some_iff.mp h).1
  have hl : t < 11 := hl
  have hc : t = 3 ∨ t = 4 ∨ t = 5 ∨ t = 6 ∨ t = 7 ∨ t = 9 ∨ t = 10 := by omega
  rcases hc with rfl | rfl | rfl | rfl | rfl | rfl | rfl <;> (cases h; rfl)
theorem es_aald {q t N i : Nat} {x d : ev_V} {wr : List (Nat × ev_V)} (hx : p.tables.exec = Jvm.exec) (hb : c.code = cc) (hd : decode cc pc = .ok (.aaload, 1)) (hK : va_K D ev_cl tys s) (hT : tys.map Prod.snd = ev_tys) (h30 : 3 ≤ t) (h80 : t ≠ 8) (hw : w[q]? = some (.inr (t, N, d, wr))) (hi : ev_ix N x = some i)
    (h : ev_G p l e R s m args below meth c Q D ev_cl tys A ex al0 nL (pc + 1, L, ev_at d wr i :: S, w, k, n)) : ev_G p l e R s m args below meth c Q D ev_cl tys A ex al0 nL (pc, L, x :: .inl (.ref q) :: S, w, k, n) := by
  intro al ws H locs ls lv st h1 h2 h3 h4 h5 h6 h7 h8
  obtain ⟨vx, st0, rfl, g8, g9⟩ := ev_st_cons h8
  obtain ⟨va, st1, rfl, ⟨a, g0, rfl⟩, g2⟩ := ev_st_cons g9
  obtain ⟨z, rfl, g6, g7, g10⟩ := ev_ix_some hi
  have e : vx = .int z := g8
  subst e
  obtain ⟨E, g3, cA, ty, g4, hE⟩ := ev_w_get h2 hw g0
  obtain ⟨f, rfl, g5⟩ := ev_arr_ref h30 h80 hE
  have hty := ev_tys_ref h30 h80 (ev_ty hT g4)
  have go := h al ws H locs ls lv (va_rf (f i) :: st1) h1 h2 h3 h4 h5 h6 h7 ⟨g5 i g10, g2⟩
  rw [← g7] at go
  have hlt : z.toNatClampNeg < N := by rw [g7]; exact g10
  exact W.aald (v := va_rf (f z.toNatClampNeg)) (ty := ty) hx hb (h3 q _ g3) ((hK.2 t _ g4).1 N (fun j => va_rf (f j))) hty (fun q => by cases q) (by show ¬ (z < 0 ∨ (arrV _ _ _).slots.size ≤ _); rw [arrV_size]; exact g6) (by show (arrV _ _ _).slots[_]? = _; rw [arrV_read _ _ hlt]) rfl rfl hd go
/-- what an array of references holds behind a store -/
theorem ev_ref_put {al : List Nat} {N i y : Nat} {d v : ev_V} {wr : List (Nat × ev_V)} {f : Nat → Option Nat} {o : Option Nat} (h : ∀ i, i < N → ev_rel al ex (ev_at d wr i) (va_rf (f i))) (hv : ev_rel al ex v (va_rf o)) (hy : y < N) : ev_rel al ex (ev_at d ((i, v) :: wr) y) (va_rf (va_up f i o y)) := by
  rw [ev_at_cons]
  by_cases e : i = y
  · subst e
    rw [if_pos rfl]
    simpa [va_up] using hv
  · rw [if_neg e]
    have : va_up f i o y = f y := by simp [va_up, Ne.symm e]
    rw [this]
    exact h y hy
theorem ev_ovw {ft : FieldType} {pl : Nat} (hX : ev_X ex A s s.heap) (h : ev_nw pl (.arrayOver (.array ft)) = true) : (Cond.arrayOver (.array ft)).before #[] s = true := hX.1 _ (ev_nw_mem h).1 (ev_nw_mem h).2
/-- an object of the world stored -/
theorem es_aastO {q t N i qk ci : Nat} {x d : ev_V} {wr : List (Nat × ev_V)} {fs : List ev_V} {r : vw_C} (hx : p.tables.exec = Jvm.exec) (hb : c.code = cc) (hd : decode cc pc = .ok (.aastore, 1)) (hK : va_K D ev_cl tys s) (hT : tys.map Prod.snd = ev_tys) (h30 : 3 ≤ t) (h80 : t ≠ 8) (hw : w[q]? = some (.inr (t, N, d, wr))) (hi : ev_ix N x = some i) (hk : w[qk]? = some (.inl (ci, fs))) (hc : ev_cl[ci]? = some r) (ht : ev_tys[t]? = some (.object r.1))
    (h : ev_G p l e R s m args below meth c Q D ev_cl tys A ex al0 nL (pc + 1, L, S, w.set q (.inr (t, N, d, (i, .inl (.ref qk)) :: wr)), k, n)) : ev_G p l e R s m args below meth c Q D ev_cl tys A ex al0 nL (pc, L, .inl (.ref qk) :: x :: .inl (.ref q) :: S, w, k, n) := by
  intro al ws H locs ls lv st h1 h2 h3 h4 h5 h6 h7 h8
  obtain ⟨v', st00, rfl, g80, g90⟩ := ev_st_cons h8
  obtain ⟨vx, st0, rfl, g8, g9⟩ := ev_st_cons g90
  obtain ⟨va, st1, rfl, ⟨a, g0, rfl⟩, g2⟩ := ev_st_cons g9
  obtain ⟨z, rfl, g6, g7, g10⟩ := ev_ix_some hi
  have e : vx = .int z := g8
  subst e
  obtain ⟨b, gb, rfl⟩ := g80
  obtain ⟨E, g3, cA, ty, g4, hE⟩ := ev_w_get h2 hw g0
  obtain ⟨f, rfl, g5⟩ := ev_arr_ref h30 h80 hE
  obtain ⟨E2, j3, vs, rfl, j4⟩ := ev_w_get h2 hk gb
  have ety : ty = .object r.1 := Option.some.inj ((ev_ty hT g4).symm.trans ht)
  subst ety
  refine va_astq hx hb hK h3 h4 h5 q t qk ci g3 g4 j3 hc g6 hd fun H1 locs1 i1 i2 i3 => ?_
  refine h al _ H1 locs1 ls lv st1 h1 (ev_w_set h2 g0 ⟨cA, _, g4, ev_arr_of h30 h80 fun y hy => ?_⟩) i1 i2 i3 h6 h7 g2
  rw [g7]
  exact ev_ref_put g5 ⟨b, gb, rfl⟩ hy
/-- an array of the world stored -/
theorem es_aastA {q t N i qk t2 N2 pl : Nat} {x d d2 : ev_V} {wr wr2 : List (Nat × ev_V)} {ft : FieldType} (hx : p.tables.exec = Jvm.exec) (hb : c.code = cc) (hd : decode cc pc = .ok (.aastore, 1)) (hK : va_K D ev_cl tys s) (hT : tys.map Prod.snd = ev_tys) (hX : ev_X ex A s s.heap) (h30 : 3 ≤ t) (h80 : t ≠ 8) (hw : w[q]? = some (.inr (t, N, d, wr))) (hi : ev_ix N x = some i) (hk : w[qk]? = some (.inr (t2, N2, d2, wr2))) (ht : ev_tys[t]? = some (.array ft)) (ht2 : ev_tys[t2]? = some ft) (hft : ∀ C, ft ≠ .object C) (hpl : ev_nw pl (.arrayOver (.array ft)) = true) (hn : (FieldType.array ft).toString = "[" ++ ft.toString)
    (h : ev_G p l e R s m args below meth c Q D ev_cl tys A ex al0 nL (pc + 1, L, S, w.set q (.inr (t, N, d, (i, .inl (.ref qk)) :: wr)), k, n)) : ev_G p l e R s m args below meth c Q D ev_cl tys A ex al0 nL (pc, L, .inl (.ref qk) :: x :: .inl (.ref q) :: S, w, k, n) := by
  intro al ws H locs ls lv st h1 h2 h3 h4 h5 h6 h7 h8
  obtain ⟨v', st00, rfl, g80, g90⟩ := ev_st_cons h8
  obtain ⟨vx, st0, rfl, g8, g9⟩ := ev_st_cons g90
  obtain ⟨va, st1, rfl, ⟨a, g0, rfl⟩, g2⟩ := ev_st_cons g9
  obtain ⟨z, rfl, g6, g7, g10⟩ := ev_ix_some hi
  have e : vx = .int z := g8
  subst e
  obtain ⟨b, gb, rfl⟩ := g80
  obtain ⟨E, g3, cA, ty, g4, hE⟩ := ev_w_get h2 hw g0
  obtain ⟨f, rfl, g5⟩ := ev_arr_ref h30 h80 hE
  obtain ⟨E2, j3, cB, ty2, j4, hE2⟩ := ev_w_get h2 hk gb
  have hE2' : ∃ x : vp_A, E2 = .inl (cB, x) := by
    unfold ev_arr at hE2
    split at hE2
    all_goals (obtain ⟨f, rfl, -⟩ := hE2; exact ⟨_, rfl⟩)
  obtain ⟨x2, rfl⟩ := hE2'
  have ety : ty = .array ft := Option.some.inj ((ev_ty hT g4).symm.trans ht)
  subst ety
  have ety2 : ty2 = ft := Option.some.inj ((ev_ty hT j4).symm.trans ht2)
  subst ety2
  obtain ⟨comp, c0, kA, k1, -, k2, k3, k4⟩ := arrayOverA_spec (ev_ovw hX hpl)
  have ra : s.vm.findClass ("[" ++ (FieldType.array ty2).toString) = some cA := (hK.2 t _ g4).2
  have ecA : cA = c0 := Option.some.inj (ra.symm.trans k4)
  subst ecA
  have rb : s.vm.findClass ("[" ++ ty2.toString) = some cB := by
    have z := (hK.2 t2 _ j4).2
    cases ty2 with
    | object C => exact absurd rfl (hft C)
    | _ => exact z
  have ecB : comp = cB := by
    rw [hn] at k1
    exact Option.some.inj (k1.symm.trans rb)
  subst ecB
  obtain ⟨kB, hkB, -⟩ := Vm.findClass_spec rb
  have hlt : z.toNatClampNeg < N := by rw [g7]; exact g10
  have h0 : ¬ z < 0 := fun q => g6 (Or.inl q)
  have hcB : (vp_cell comp x2).cls = comp ∧ ∀ q, (vp_cell comp x2).vm ≠ .statics q := by
    unfold vp_cell
    split <;> exact ⟨rfl, fun q h => by cases h⟩
  refine W.aast hx hb (h3 q _ g3) (fun q h => by cases h) (fun h => by cases h) k2 k3 rfl hkB ⟨h0, by show _ < (arrV _ _ _).slots.size; rw [arrV_size]; exact hlt⟩ (h3 qk _ j3) hcB.2 (by rw [hcB.1]; exact hkB) (by rw [hcB.1]; exact va_asg _ _) rfl rfl hd fun H1 e z1 oq => ?_
  have key : va_P D ev_cl (ws.set q (a, .inl (cA, N, .inr (.inr (.inr (.inr (va_up f z.toNatClampNeg (some b)))))))) H1 := by
    refine h3.set h4 g3 ?_ oq
    show H1[a]? = some (vp_cell _ _)
    rw [e]
    rw [vp_cell_q, vp_cell_q, arrV_store]
    congr 2
    funext q
    by_cases hq : q = z.toNatClampNeg
    · subst hq
      simp [updV, va_up, va_rf]
    · simp [updV, va_up, hq]
  refine h al _ H1 _ ls lv st1 h1 (ev_w_set h2 g0 ⟨cA, _, g4, ev_arr_of h30 h80 fun y hy => ?_⟩) key (h4.set g3) (h5.put z1 oq (h4.2 q _ g3)) h6 h7 g2
  rw [g7]
  exact ev_ref_put g5 ⟨b, gb, rfl⟩ hy
end EvRefs
