/-! The law: its claim out of one walk of its body (as the skeleton has it), and the walk to its loop -/
def R_law : String := "PathProverLaw"
def lw_P (b : Addr) (xs : List Int32) (args : Array Value) (s : State) : Prop := args = #[.ref b] ∧ s.IntsAt b xs ∧ xs.length ≤ 6 ∧ (Jvm.Cond.and given_1 narrow_1).before args s = true
def lw_Q (_ : Array Value) (s : State) (o : Outcome) (t : State) : Prop := o = .returned (some (.int 1)) ∧ Framed s o t [] 600002 7302232
def lw_Z (below : List Frame) (a : Array Value) (s : State) : State → Prop := fun t => ∃ o, t.status = .running ∧ Ended t below o ∧ lw_Q a s o t
/-- the law's own end, with 1 on the stack, nothing written that was there before, its room as the claim has it -/
theorem lw_ret {p : Program} {l : Launch} {e : Env} {s : State} {m : MethodId} {below : List Frame} {meth : Method} {c : Code} {b : Nat} (hx : p.tables.exec = Jvm.exec) (hb : c.code = code) (hr : meth.sig.returnType = ret) (hlocks : meth.locks = false) {pc : Nat} {H : Heap} {ls : Array Slot} (hdg : decode code pc = .ok (.ireturn, 1)) : W p l e room_1 s m #[Value.ref b] below meth c H [] 600002 7302232 (lw_Z below #[Value.ref b] s) (F0 m pc ls [.int 1]) := by
  intro T hT X
  obtain ⟨fs, hret, hrun, hended, hW, hframe⟩ := X.leave (v := some (.int 1)) (hlocks := hlocks) (fun h => by rw [hr] at h; cases h)
  have hmeth' : T.vm.method? m = some meth := X.method'
  refine ⟨T.setFrames fs, ?_, .returned (some (.int 1)), hrun, hended, rfl, ⟨_, rfl⟩, hW, hframe⟩
  jvm_step X.here [X.here.top, hx, hb, hdg, hmeth', hr, ret, narrow_b1]
  (try refine ⟨rfl, ?_⟩); (try refine ⟨rfl, ?_⟩)
  first | (intro acts; rw [hret _ acts rfl rfl rfl]) | rw [hret _ _ rfl rfl rfl]
  exact Steps.refl _
/-- what holds at the law's entry: the machine, the code, the tables' words (any of lw_tbl by 'hts w (by decide +kernel)'), the script of L ints xs at the cell b, what the Statement gives of the start (any of its parts by flat_of_before) -/
def lw_At (p : Program) (s : State) (m : MethodId) (meth : Method) (c : Code) (b L : Nat) (xs : Nat → Int32) : Prop :=
  p.tables.exec = Jvm.exec ∧ c.code = code ∧ meth.sig.returnType = ret ∧ c.maxLocals = 7 ∧ s.vm.findClass R_law = some m.cls ∧ (∀ w ∈ lw_tbl, w.before #[Value.ref b] s = true) ∧ va_X b L xs s s.heap ∧ b < s.heap.size ∧ meth.locks = false ∧ (Jvm.Cond.and given_1 narrow_1).before #[Value.ref b] s = true
/-! The law's start: every script of at most six ints -/
theorem ev_iv {ex : Nat → Nat} {a b : Int} {x : Int32} (h1 : a ≤ x.toInt) (h2 : x.toInt ≤ b) : ∀ al, ev_rel al ex (.inr (some (a, b))) (.int x) := fun _ => ⟨x, rfl, h1, h2⟩
theorem ev_kn {ex : Nat → Nat} {x z : Int32} (h : x.toInt = z.toInt) : ∀ al, ev_rel al ex (.inl (.int z)) (.int x) := fun _ => by
  show Value.int x = Value.int z
  rw [Int32.toInt_inj.mp h]
theorem ev_lo (x : Int32) : (-2147483648 : Int) ≤ x.toInt := Int32.le_toInt x
theorem ev_hi (x : Int32) : x.toInt ≤ (2147483647 : Int) := by
  have := Int32.toInt_lt x
  omega
theorem ev_sc6 {ex : Nat → Nat} {xs : Nat → Int32} {a0 a1 a2 a3 a4 a5 : ev_V} (h0 : ∀ al, ev_rel al ex a0 (.int (xs 0))) (h1 : ∀ al, ev_rel al ex a1 (.int (xs 1))) (h2 : ∀ al, ev_rel al ex a2 (.int (xs 2))) (h3 : ∀ al, ev_rel al ex a3 (.int (xs 3))) (h4 : ∀ al, ev_rel al ex a4 (.int (xs 4))) (h5 : ∀ al, ev_rel al ex a5 (.int (xs 5))) :
    ∀ (i : Nat) (v : ev_V), [a0, a1, a2, a3, a4, a5][i]? = some v → ∀ al, ev_rel al ex v (.int (xs i)) := by
  intro i v h
  match i, h with
  | 0, h => cases h; exact h0
  | 1, h => cases h; exact h1
  | 2, h => cases h; exact h2
  | 3, h => cases h; exact h3
  | 4, h => cases h; exact h4
  | 5, h => cases h; exact h5
  | n + 6, h => cases h
theorem ev_fine_ok {o : Option ev_R} (h : ev_fine o = true) : ∃ (w : List ev_C) (k n : Nat), o = some (.inl (some (.inl (.int 1))), w, k, n) ∧ k ≤ 600002 ∧ n ≤ 7302232 := by
  unfold ev_fine at h
  split at h
  · rename_i x w k n
    simp only [Bool.and_eq_true, decide_eq_true_eq] at h
    obtain ⟨⟨rfl, h2⟩, h3⟩ := h
    exact ⟨w, k, n, rfl, Nat.le_of_ble_eq_true h2, Nat.le_of_ble_eq_true h3⟩
  · cases h
theorem ev_and15 (z : Int32) : ∃ k : Nat, k < 16 ∧ z &&& 15 = Int32.ofNat k := by
  refine ⟨z.toBitVec.toNat % 16, Nat.mod_lt _ (by decide), ?_⟩
  apply Int32.toBitVec_inj.mp
  apply BitVec.eq_of_toNat_eq
  rw [Int32.toBitVec_and, BitVec.toNat_and]
  show z.toBitVec.toNat &&& 15 = (BitVec.ofNat 32 (z.toBitVec.toNat % 16)).toNat
  rw [BitVec.toNat_ofNat, show (15 : Nat) = 2 ^ 4 - 1 from rfl, Nat.and_two_pow_sub_one_eq_mod]
  omega
theorem ev_law_dec {pc : Nat} {ins : Instr} (h : ev_find ev_b0 pc = some (ins, [])) (hs : ev_sw ins = false) : decode code pc = .ok (ins, ev_ilen ins) :=
  ev_ok_dec (List.all_eq_true.mp ev_k0 _ (ev_find_mem h)) hs
section EvStart
variable {p : Program} {l : Launch} {e : Env} {s : State} {m : MethodId} {below : List Frame} {meth : Method} {c : Code} {D : va_G} {tys : List (ClassId × FieldType)} {A : Nat → Prop} {ex : Nat → Nat}
/-- the evaluator comes to the law's end -/
theorem ev_end {b : Nat} {sc : List ev_V} {f : ev_F} {fuel : Nat} (X : ev_Ctx p room_1 s m #[Value.ref b] meth c D tys A ex code "PathProverLaw" "law" 7 sc) (hA : ∀ q, A q → s.heap.size ≤ q) (hr : meth.sig.returnType = ret) (hlk : meth.locks = false) (hno : c.exceptionTable.toList = []) (htr : e.platform.stackTraces = false)
    (hrun : ∀ mj as w res, ev_r12 mj as w = some res → ev_Cok l D tys ex 12 mj as w res) (h : ev_fine (ev_loop (some .boolean) ev_r12 ev_fds ev_jk ev_kb sc 7 [] ev_b0 fuel f) = true) :
    ev_G p l e room_1 s m #[Value.ref b] below meth c (lw_Z below #[Value.ref b] s) D ev_cl tys A ex [] 7 f := by
  obtain ⟨w1, k1, n1, h1, h2, h3⟩ := ev_fine_ok h
  refine ev_loop_ok (d := 12) X ev_k0 ev_cc0 (by rw [hno]; trivial) hlk htr (by decide) (by decide) ev_inf_ok ev_at_all hrun h2 h3 ?_ ?_ ?_ fuel f h1
  · intro pc L v w k n hend hrk he
    cases he
    have hdec : decode code pc = .ok (.ireturn, 1) := by
      rcases hend with ⟨hdec, -⟩ | ⟨-, hI⟩ | ⟨-, hI⟩
      · exact hdec
      · cases hI
      · cases hI
    intro al ws H locs ls lv st g1 g2 g3 g4 g5 g6 g7 g8
    obtain ⟨v', st1, rfl, q1, q2⟩ := ev_st_cons g8
    have e1 : st1 = [] := by
      cases st1 with
      | nil => rfl
      | cons a b => exact q2.elim
    subst e1
    have e2 : v' = .int 1 := q1
    subst e2
    exact va_forget (fun q hq => hA _ (g5.2.2 q hq)) (W.widen h2 h3 (lw_ret X.1 X.2.1 hr hlk hdec))
  · intro pc L w k n hdec hrk he
    cases he
  · intro x w k n he
    cases he
theorem ev_mask {b : Nat} {w : List ev_C} {k n : Nat} (hx : p.tables.exec = Jvm.exec) (hb : c.code = code)
    (h : ∀ j : Nat, j < 16 → ev_G p l e room_1 s m #[Value.ref b] below meth c (lw_Z below #[Value.ref b] s) D ev_cl tys A ex [] 7 (40, ev_L0, [.inl (.int (Int32.ofNat j))], w, k, n)) :
    ev_G p l e room_1 s m #[Value.ref b] below meth c (lw_Z below #[Value.ref b] s) D ev_cl tys A ex [] 7 (39, ev_L0, [.inl (.int 15), ev_tp], w, k, n) := by
  intro al ws H locs ls lv st g1 g2 g3 g4 g5 g6 g7 g8
  obtain ⟨v1, st1, rfl, q1, q2⟩ := ev_st_cons g8
  obtain ⟨v2, st2, rfl, q3, q4⟩ := ev_st_cons q2
  have e1 : v1 = .int 15 := q1
  subst e1
  obtain ⟨z, rfl, -, -⟩ := q3
  obtain ⟨j, hj, ej⟩ := ev_and15 z
  refine lv_iand hx hb (ev_law_dec (pc := 39) (ins := .iand) (by decide +kernel) rfl) ?_
  rw [ej]
  exact h j hj al ws H locs ls lv _ g1 g2 g3 g4 g5 g6 g7 ⟨rfl, q4⟩
set_option maxHeartbeats 4000000 in
theorem ev_start {b L : Nat} {xs : Nat → Int32} (hl : l.stackTraces = false) (htr : e.platform.stackTraces = false) (hname : meth.name = "law") (hno : c.exceptionTable.toList = []) (hL : L ≤ 6) (C0 : lw_At p s m meth c b L xs) : W p l e room_1 s m #[Value.ref b] below meth c s.heap [] 0 0 (lw_Z below #[Value.ref b] s) (entryFrame m ([Value.ref b] : List Value).toArray 7) := by
  obtain ⟨hx, hb, hr, hml, hown, hts, hX, hbl, hlk, hgv⟩ := C0
  obtain ⟨D, tys, hT, hK⟩ := ev_knownK hts
  have hA0 : ∀ a : Nat, a < s.heap.size → ¬ va_A [] s.heap.size a := by
    intro a ha hq
    rcases hq with ⟨k, E, h⟩ | h
    · cases h
    · exact absurd ha (Nat.not_lt.mpr h)
  have hA1 : ∀ q, va_A [] s.heap.size q → s.heap.size ≤ q := by
    intro q hq
    rcases hq with ⟨k, E, h⟩ | h
    · cases h
    · exact h
  have hXX := ev_outer hA0 b hts hgv
  have e2000 : ev_exs #[Value.ref b] s b 2000 = b := rfl
  generalize hex : ev_exs #[Value.ref b] s b = ex at hXX e2000
  have hTs : ∀ w ∈ ev_Ts, w.before #[Value.ref b] s = true := fun w hw => hts w (List.mem_filter.mp hw).1
  have hX2 : va_X (ex 2000) L xs s s.heap := by rw [e2000]; exact hX
  have hbl2 : ex 2000 < s.heap.size := by rw [e2000]; exact hbl
  have hbA2 : ¬ va_A [] s.heap.size (ex 2000) := hA0 _ hbl2
  have X0 : ev_Ctx p room_1 s m #[Value.ref b] meth c D tys (va_A [] s.heap.size) ex code "PathProverLaw" "law" 7 [] := ⟨hx, hb, hml, hown, hTs, hK, hT, fun _ h => Or.inr h, hXX, hname, Or.inl rfl, rfl⟩
  have hrun : ∀ mj as w res, ev_r12 mj as w = some res → ev_Cok l D tys ex 12 mj as w res := ev_r12_ok hl hT ev_zz39 ev_mok ev_inf_ok ev_at_all
  have hrows : ev_rows "PathProverLaw" c.exceptionTable.toList [] := by rw [hno]; trivial
  refine ev_entry (al := []) (ws := []) (as := [.inl (.retAddr 2000)]) (w := []) (tys := tys) (ex := ex) ⟨rfl, rfl, fun k x h => by cases h⟩ ⟨by show Value.ref b = .ref (ex 2000); rw [e2000], trivial⟩ (by decide) (D := D) (fun k q h => by cases h) ⟨fun i j p q h => (by cases h), fun k q h => (by cases h)⟩ ?_
  refine ev_to_ok (d := 12) X0 ev_k0 ev_cc0 hrows hlk htr (by decide) (by decide) ev_inf_ok ev_at_all hrun (by decide) (by decide) ?_ 100 _ ev_t26
  refine es_slen (j := 2000) hx hb (ev_law_dec (ins := .arraylength) (by decide +kernel) rfl) hX2 hbl2 hbA2 ?_
  have short : ∀ z : Int32, ev_fine (ev_short z) = true → ev_G p l e room_1 s m #[Value.ref b] below meth c (lw_Z below #[Value.ref b] s) D ev_cl tys (va_A [] s.heap.size) ex [] 7 (27, ev_L0, [.inl (.int z), .inl (.int 0)], ev_w0, 201, 293034) := fun z hz => ev_end X0 hA1 hr hlk hno htr hrun hz
  have hcase : L = 0 ∨ L = 1 ∨ L = 2 ∨ L = 3 ∨ L = 4 ∨ L = 5 ∨ L = 6 := by omega
  rcases hcase with rfl | rfl | rfl | rfl | rfl | rfl | rfl
  · exact short _ ev_short0
  · exact short _ ev_short1
  · exact short _ ev_short2
  · exact short _ ev_short3
  · exact short _ ev_short4
  · exact short _ ev_short5
  have XS : ∀ sc : List ev_V, sc.length = 6 → (∀ (i : Nat) (v : ev_V), sc[i]? = some v → ∀ al, ev_rel al ex v (.int (xs i))) → ev_Ctx p room_1 s m #[Value.ref b] meth c D tys (va_A [] s.heap.size) ex code "PathProverLaw" "law" 7 sc := by
    intro sc hsc hv
    exact ⟨hx, hb, hml, hown, hTs, hK, hT, fun _ h => Or.inr h, hXX, hname, Or.inr ⟨xs, by rw [hsc]; exact hX2, hbl2, hbA2, hv⟩, rfl⟩
  have tp : ∀ i, ∀ al, ev_rel al ex ev_tp (.int (xs i)) := fun i => ev_iv (ev_lo _) (ev_hi _)
  refine ev_to_ok (d := 12) (XS [ev_tp, ev_tp, ev_tp, ev_tp, ev_tp, ev_tp] rfl (ev_sc6 (tp 0) (tp 1) (tp 2) (tp 3) (tp 4) (tp 5))) ev_k0 ev_cc0 hrows hlk htr (by decide) (by decide) ev_inf_ok ev_at_all hrun (by decide) (by decide) ?_ 100 _ ev_t39
  refine ev_mask hx hb fun j hj => ?_
  have go : ∀ (z : Int32) (a1 a2 : ev_V), (∀ al, ev_rel al ex a1 (.int (xs 1))) → (∀ al, ev_rel al ex a2 (.int (xs 2))) → ev_fine (ev_case [ev_tp, a1, a2, ev_tp, ev_tp, ev_tp] z) = true →
      ev_G p l e room_1 s m #[Value.ref b] below meth c (lw_Z below #[Value.ref b] s) D ev_cl tys (va_A [] s.heap.size) ex [] 7 (40, ev_L0, [.inl (.int z)], ev_w0, 201, 293034) := fun z a1 a2 h1 h2 hz =>
    ev_end (XS [ev_tp, a1, a2, ev_tp, ev_tp, ev_tp] rfl (ev_sc6 (tp 0) h1 h2 (tp 3) (tp 4) (tp 5))) hA1 hr hlk hno htr hrun hz
  have l1 := ev_lo (xs 1)
  have u1 := ev_hi (xs 1)
  have l2 := ev_lo (xs 2)
  have u2 := ev_hi (xs 2)
  have hj16 : j = 0 ∨ j = 1 ∨ j = 2 ∨ j = 3 ∨ j = 4 ∨ j = 5 ∨ j = 6 ∨ j = 7 ∨ j = 8 ∨ j = 9 ∨ j = 10 ∨ j = 11 ∨ j = 12 ∨ j = 13 ∨ j = 14 ∨ j = 15 := by omega
  rcases hj16 with rfl | rfl | rfl | rfl | rfl | rfl | rfl | rfl | rfl | rfl | rfl | rfl | rfl | rfl | rfl | rfl
  · exact go 0 _ _ (tp 1) (tp 2) ev_case0
  · by_cases c1_0 : (xs 1).toInt ≤ -1
    · exact go 1 _ _ (ev_iv (by omega) (by omega)) (tp 2) ev_case1
    by_cases c1_1 : (xs 1).toInt ≤ 0
    · exact go 1 _ _ (ev_kn (z := 0) (by show (xs 1).toInt = 0; omega)) (tp 2) ev_case2
    exact go 1 _ _ (ev_iv (by omega) (by omega)) (tp 2) ev_case3
  · exact go 2 _ _ (tp 1) (tp 2) ev_case4
  · exact go 3 _ _ (tp 1) (tp 2) ev_case5
  · by_cases c1_0 : (xs 1).toInt ≤ -1
    · exact go 4 _ _ (ev_iv (by omega) (by omega)) (tp 2) ev_case6
    exact go 4 _ _ (ev_iv (by omega) (by omega)) (tp 2) ev_case7
  · by_cases c1_0 : (xs 1).toInt ≤ -1
    · exact go 5 _ _ (ev_iv (by omega) (by omega)) (tp 2) ev_case8
    by_cases c1_1 : (xs 1).toInt ≤ 4
    · by_cases c2_0 : (xs 2).toInt ≤ -1
      · exact go 5 _ _ (ev_iv (by omega) (by omega)) (ev_iv (by omega) (by omega)) ev_case9
      by_cases c2_1 : (xs 2).toInt ≤ 0
      · exact go 5 _ _ (ev_iv (by omega) (by omega)) (ev_kn (z := 0) (by show (xs 2).toInt = 0; omega)) ev_case10
      exact go 5 _ _ (ev_iv (by omega) (by omega)) (ev_iv (by omega) (by omega)) ev_case11
    by_cases c1_2 : (xs 1).toInt ≤ 5
    · by_cases c2_0 : (xs 2).toInt ≤ -1
      · exact go 5 _ _ (ev_kn (z := 5) (by show (xs 1).toInt = 5; omega)) (ev_iv (by omega) (by omega)) ev_case12
      exact go 5 _ _ (ev_kn (z := 5) (by show (xs 1).toInt = 5; omega)) (ev_iv (by omega) (by omega)) ev_case13
    exact go 5 _ _ (ev_iv (by omega) (by omega)) (tp 2) ev_case14
  · by_cases c1_0 : (xs 1).toInt ≤ -1
    · exact go 6 _ _ (ev_iv (by omega) (by omega)) (tp 2) ev_case15
    by_cases c1_1 : (xs 1).toInt ≤ 7
    · exact go 6 _ _ (ev_iv (by omega) (by omega)) (tp 2) ev_case16
    exact go 6 _ _ (ev_iv (by omega) (by omega)) (tp 2) ev_case17
  · by_cases c1_0 : (xs 1).toInt ≤ -1
    · exact go 7 _ _ (ev_iv (by omega) (by omega)) (tp 2) ev_case18
    exact go 7 _ _ (ev_iv (by omega) (by omega)) (tp 2) ev_case19
  · by_cases c1_0 : (xs 1).toInt ≤ -1
    · exact go 8 _ _ (ev_iv (by omega) (by omega)) (tp 2) ev_case20
    exact go 8 _ _ (ev_iv (by omega) (by omega)) (tp 2) ev_case21
  · by_cases c1_0 : (xs 1).toInt ≤ -1
    · exact go 9 _ _ (ev_iv (by omega) (by omega)) (tp 2) ev_case22
    exact go 9 _ _ (ev_iv (by omega) (by omega)) (tp 2) ev_case23
  · by_cases c1_0 : (xs 1).toInt ≤ -1
    · exact go 10 _ _ (ev_iv (by omega) (by omega)) (tp 2) ev_case24
    exact go 10 _ _ (ev_iv (by omega) (by omega)) (tp 2) ev_case25
  · by_cases c1_0 : (xs 1).toInt ≤ -1
    · exact go 11 _ _ (ev_iv (by omega) (by omega)) (tp 2) ev_case26
    exact go 11 _ _ (ev_iv (by omega) (by omega)) (tp 2) ev_case27
  · by_cases c1_0 : (xs 1).toInt ≤ -1
    · exact go 12 _ _ (ev_iv (by omega) (by omega)) (tp 2) ev_case28
    exact go 12 _ _ (ev_iv (by omega) (by omega)) (tp 2) ev_case29
  · by_cases c1_0 : (xs 1).toInt ≤ -1
    · exact go 13 _ _ (ev_iv (by omega) (by omega)) (tp 2) ev_case30
    by_cases c1_1 : (xs 1).toInt ≤ 3
    · exact go 13 _ _ (ev_iv (by omega) (by omega)) (tp 2) ev_case31
    exact go 13 _ _ (ev_iv (by omega) (by omega)) (tp 2) ev_case32
  · by_cases c1_0 : (xs 1).toInt ≤ -1
    · exact go 14 _ _ (ev_iv (by omega) (by omega)) (tp 2) ev_case33
    by_cases c1_1 : (xs 1).toInt ≤ 1
    · exact go 14 _ _ (ev_iv (by omega) (by omega)) (tp 2) ev_case34
    by_cases c1_2 : (xs 1).toInt ≤ 2
    · exact go 14 _ _ (ev_kn (z := 2) (by show (xs 1).toInt = 2; omega)) (tp 2) ev_case35
    exact go 14 _ _ (ev_iv (by omega) (by omega)) (tp 2) ev_case36
  · exact go 15 _ _ (tp 1) (tp 2) ev_case37
end EvStart
