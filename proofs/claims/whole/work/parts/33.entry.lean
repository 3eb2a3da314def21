/-! At the law's entry: what the tables and the start say of strings and statics -/
def ev_kt : Term := .string "PathProver$Lexer" 20
def ev_kv : Term := .field ev_kt "java/lang/String" "value" "[B"
def ev_tw : List Cond := ev_strs.map (fun q => Cond.stringRef q.1 q.2.1 q.2.2) ++ [.laysStatic "java/lang/String" "COMPACT_STRINGS" "Z", .initialized "java/lang/String", .laysStatic "jdk/internal/util/Preconditions" "SIOOBE_FORMATTER" "Ljava/util/function/BiFunction;", .initialized "jdk/internal/util/Preconditions", ev_lay1, ev_lay2, .initialized "java/lang/Throwable", .arrayClass .int, .arrayClass .byte, .arrayClass .long, .arrayOver (.object "java/lang/String"), .arrayOver (.array .long), .arrayOver (.array .boolean), .arrayOver (.object "PathProverModel$Module"), .arrayOver (.object "PathProverModel$Bits"), .arrayClass .boolean, .arrayOver (.object "PathProverModel$Node"), .arrayOver (.object "PathProverModel$Instance")]
def ev_el (j : Nat) : Cond := .eq (.elem ev_kv (.int (Int32.ofNat j))) (.int (ev_kb.getD j 0))
def ev_nw1 : List Cond := ev_strs.map (fun q => Cond.exactly (.string q.1 q.2.1) "java/lang/String")
def ev_nw2 : List Cond := (List.range 135).map ev_el
def ev_nw3 : List Cond := ev_ncs.map (fun q => Cond.not (.castable q.1 q.2))
def ev_nw4 : List Cond := [.eq (.field ev_kt "java/lang/String" "coder" "B") (.int 0), .arrayOf ev_kv .byte, .eq (.length ev_kv) (.int 135), .eq (.static "java/lang/String" "COMPACT_STRINGS" "Z") (.int 1), .isRef (.static "jdk/internal/util/Preconditions" "SIOOBE_FORMATTER" "Ljava/util/function/BiFunction;"), ev_ref1, ev_ref2]
def ev_FL : List Cond := flatC (Jvm.Cond.and given_1 narrow_1)
theorem ev_inT {ws : List Cond} (pls : List Nat) (h : ws.map some = pls.map ev_pl) : ∀ w ∈ ws, w ∈ lw_tbl := by
  intro w hw
  have h1 : some w ∈ pls.map ev_pl := by rw [← h]; exact List.mem_map.mpr ⟨w, hw, rfl⟩
  obtain ⟨pl, -, h2⟩ := List.mem_map.mp h1
  exact ev_pl_mem h2
theorem ev_inF {ws : List Cond} (ixs : List Nat) (h : ws.map some = ixs.map (fun i => ev_FL[i]?)) : ∀ w ∈ ws, w ∈ ev_FL := by
  intro w hw
  have h1 : some w ∈ ixs.map (fun i => ev_FL[i]?) := by rw [← h]; exact List.mem_map.mpr ⟨w, hw, rfl⟩
  obtain ⟨i, -, h2⟩ := List.mem_map.mp h1
  exact List.mem_of_getElem? h2
set_option maxRecDepth 1000000 in
theorem ev_tw_in : ∀ w ∈ ev_tw, w ∈ lw_tbl := ev_inT [1202, 12098, 12099, 12100, 12101, 12102, 12103, 12104, 12105, 12106, 12107, 12108, 12109, 12110, 12111, 12112, 12113, 12114, 12115, 12116, 12117, 12118, 12119, 12120, 12121, 12122, 12123, 12124, 12125, 12126, 12127, 12128, 12129, 12130, 12131, 12132, 12133, 12134, 12135, 12136, 12137, 12138, 12139, 12140, 12141, 12142, 12143, 12144, 12145, 12146, 12147, 12148, 12149, 12150, 12151, 12152, 1212, 1006, 1228, 1008, 4223, 4225, 1023, 1082, 1081, 3031, 12097, 3005, 12167, 12154, 12168, 15066, 13200, 14163] (by decide +kernel)
set_option maxRecDepth 1000000 in
theorem ev_nw1_in : ∀ w ∈ ev_nw1, w ∈ ev_FL := ev_inF [399, 650, 657, 663, 669, 675, 681, 687, 693, 698, 704, 709, 714, 719, 724, 729, 734, 739, 744, 749, 754, 759, 764, 769, 774, 779, 784, 789, 794, 804, 811, 821, 831, 839, 847, 855, 864, 873, 885, 893, 904, 911, 917, 923, 929, 935, 941, 947, 952, 957, 962, 968, 975, 983, 991, 999] (by decide +kernel)
set_option maxRecDepth 1000000 in
theorem ev_nw2_in : ∀ w ∈ ev_nw2, w ∈ ev_FL := ev_inF ((List.range 135).map (fun j => 403 + j)) (by decide +kernel)
set_option maxRecDepth 1000000 in
theorem ev_nw3_in : ∀ w ∈ ev_nw3, w ∈ ev_FL := ev_inF [364, 339, 289, 321, 346, 297, 314, 365, 290, 313, 363, 338] (by decide +kernel)
set_option maxRecDepth 1000000 in
theorem ev_nw4_in : ∀ w ∈ ev_nw4, w ∈ ev_FL := ev_inF [400, 401, 402, 4, 5, 9, 10] (by decide +kernel)
def ev_ic : List Cond := ev_cl.map (fun q => Cond.instantiable q.1 q.2.2)
set_option maxRecDepth 1000000 in
theorem ev_ic_in : ∀ w ∈ ev_ic, w ∈ lw_tbl := ev_inT [1042, 12090, 3217, 2089, 1195, 2138, 1050, 1189, 4057, 3130, 1056, 2239, 2095, 2132, 12156, 15037, 14157, 13175, 13193] (by decide +kernel)
theorem ev_eqT {t : Term} {args : Array Value} {s : State} {z : Int32} (h : (Cond.eq t (.int z)).before args s = true) : t.eval args s none [] s = some (.int z) := by
  cases hv : t.eval args s none [] s with
  | none => simp [Cond.before, Cond.holds, Cond.value, hv] at h
  | some w =>
    have hz : (Term.int z).eval args s none [] s = some (.int z) := rfl
    simp only [Cond.before, Cond.holds, Cond.value, hv, hz] at h
    cases w <;> simp_all
section EvEntry
variable {args : Array Value} {s : State}
theorem ev_tyP {ty : FieldType} (hp : ∀ C, ty ≠ .object C) (h : (Cond.arrayClass ty).before args s = true) : ∃ cA : ClassId, ArrOfT s cA ty ∧ va_RA s cA ty := by
  obtain ⟨c, k, comp, h1, h2, h3⟩ := Cond.arrayClass_spec h
  refine ⟨c, fun n z => ⟨fun k h => (by cases h), k, h2, comp, h3⟩, ?_⟩
  cases ty with
  | object C => exact absurd rfl (hp C)
  | _ => exact h1
theorem ev_tyO {C : String} (h : (Cond.arrayOver (.object C)).before args s = true) : ∃ cA : ClassId, ArrOfT s cA (.object C) ∧ va_RA s cA (.object C) := by
  obtain ⟨comp, c, k, h1, h2, h3, h4, h5⟩ := Cond.arrayOver_spec h
  exact ⟨c, fun n z => ⟨fun k h => (by cases h), k, h3, comp, h4⟩, k, comp, h3, h4, h1, h5⟩
theorem ev_tyA {t : FieldType} (h : (Cond.arrayOver (.array t)).before args s = true) : ∃ cA : ClassId, ArrOfT s cA (.array t) ∧ va_RA s cA (.array t) := by
  obtain ⟨comp, c, k, h1, h2, h3, h4, h5⟩ := arrayOverA_spec h
  exact ⟨c, fun n z => ⟨fun k h => (by cases h), k, h3, comp, h4⟩, h5⟩
theorem ev_twm {w : Cond} (n : Nat) (h : ev_tw[n]? = some w) (hts : ∀ w ∈ lw_tbl, w.before args s = true) : w.before args s = true := hts w (ev_tw_in w (List.mem_of_getElem? h))
/-- the classes and the arrays' classes are known -/
theorem ev_knownK (hts : ∀ w ∈ lw_tbl, w.before args s = true) : ∃ (D : va_G) (tys : List (ClassId × FieldType)), tys.map Prod.snd = ev_tys ∧ va_K D ev_cl tys s := by
  have hT : ∀ w ∈ ev_Ts, w.before args s = true := fun w hw => hts w (List.mem_filter.mp hw).1
  have hc : ∀ ci : Nat, ∃ (cC : ClassId) (iS : Nat → Nat), ∀ q : vw_C, ev_cl[ci]? = some q → u_Kn s q.1 q.2.1 q.2.2 cC iS := by
    intro ci
    cases hq : ev_cl[ci]? with
    | none => exact ⟨0, fun _ => 0, fun q hq2 => by cases hq2⟩
    | some q =>
      obtain ⟨C, T, N⟩ := q
      have hin := (ev_cok_all ci C T N hq).1
      have hi : (Cond.instantiable C N).before args s = true := hts _ (ev_ic_in _ (List.mem_map.mpr ⟨(C, T, N), List.mem_of_getElem? hq, rfl⟩))
      obtain ⟨cC, iS, h⟩ := u_known hT hin hi
      exact ⟨cC, iS, fun q hq2 => by cases hq2; exact h⟩
  obtain ⟨c0, a0, b0⟩ := ev_tyP (ty := .int) (fun C => by intro h; cases h) (ev_twm 63 rfl hts)
  obtain ⟨c1, a1, b1⟩ := ev_tyP (ty := .byte) (fun C => by intro h; cases h) (ev_twm 64 rfl hts)
  obtain ⟨c2, a2, b2⟩ := ev_tyP (ty := .long) (fun C => by intro h; cases h) (ev_twm 65 rfl hts)
  obtain ⟨c3, a3, b3⟩ := ev_tyO (C := "java/lang/String") (ev_twm 66 rfl hts)
  obtain ⟨c4, a4, b4⟩ := ev_tyA (t := .long) (ev_twm 67 rfl hts)
  obtain ⟨c5, a5, b5⟩ := ev_tyA (t := .boolean) (ev_twm 68 rfl hts)
  obtain ⟨c6, a6, b6⟩ := ev_tyO (C := "PathProverModel$Module") (ev_twm 69 rfl hts)
  obtain ⟨c7, a7, b7⟩ := ev_tyO (C := "PathProverModel$Bits") (ev_twm 70 rfl hts)
  obtain ⟨c8, a8, b8⟩ := ev_tyP (ty := .boolean) (fun C => by intro h; cases h) (ev_twm 71 rfl hts)
  obtain ⟨c9, a9, b9⟩ := ev_tyO (C := "PathProverModel$Node") (ev_twm 72 rfl hts)
  obtain ⟨c10, a10, b10⟩ := ev_tyO (C := "PathProverModel$Instance") (ev_twm 73 rfl hts)
  refine ⟨(fun ci => (hc ci).choose, fun ci => (hc ci).choose_spec.choose), [(c0, .int), (c1, .byte), (c2, .long), (c3, .object "java/lang/String"), (c4, .array .long), (c5, .array .boolean), (c6, .object "PathProverModel$Module"), (c7, .object "PathProverModel$Bits"), (c8, .boolean), (c9, .object "PathProverModel$Node"), (c10, .object "PathProverModel$Instance")], rfl, fun ci q hq => (hc ci).choose_spec.choose_spec q hq, fun k q hk => ?_⟩
  match k, hk with
  | 0, hk => cases hk; exact ⟨a0, b0⟩
  | 1, hk => cases hk; exact ⟨a1, b1⟩
  | 2, hk => cases hk; exact ⟨a2, b2⟩
  | 3, hk => cases hk; exact ⟨a3, b3⟩
  | 4, hk => cases hk; exact ⟨a4, b4⟩
  | 5, hk => cases hk; exact ⟨a5, b5⟩
  | 6, hk => cases hk; exact ⟨a6, b6⟩
  | 7, hk => cases hk; exact ⟨a7, b7⟩
  | 8, hk => cases hk; exact ⟨a8, b8⟩
  | 9, hk => cases hk; exact ⟨a9, b9⟩
  | 10, hk => cases hk; exact ⟨a10, b10⟩
  | n + 11, hk => cases hk
/-- where a term's object lies -/
def ev_adr (args : Array Value) (s : State) (t : Term) : Nat :=
  match t.eval args s none [] s with
  | some (.ref a) => a
  | _ => 0
theorem ev_adr_eq {t : Term} {a : Nat} (h : t.eval args s none [] s = some (.ref a)) : ev_adr args s t = a := by
  unfold ev_adr
  rw [h]
def ev_exs (args : Array Value) (s : State) (b : Nat) (j : Nat) : Nat :=
  if j = 2000 then b else if j = 1000 then ev_adr args s ev_kv else
  match ev_strs[j]? with
  | some q => ev_adr args s (.string q.1 q.2.1)
  | none => 0
theorem ev_strs_len : ev_strs.length = 56 := by decide +kernel
theorem ev_exs_str {b j : Nat} {q : String × Nat × String} (h : ev_strs[j]? = some q) : ev_exs args s b j = ev_adr args s (.string q.1 q.2.1) := by
  have hj := (List.getElem?_eq_some_iff.mp h).1
  rw [ev_strs_len] at hj
  unfold ev_exs
  rw [if_neg (by omega), if_neg (by omega), h]
theorem ev_nest_nw {w : Cond} (hn : ev_nest w = true) (h : w.before args s = true) : va_Nw w s := by
  cases w with
  | arrayOver t => exact h
  | fieldLinkNest a i b n d h' => exact va_Nw.of rfl h
  | methodLinkNest a i x h' => exact va_Nw.of rfl h
  | castable C T => exact va_Nw.of rfl h
  | declares x => exact va_Nw.of rfl h
  | _ => simp [ev_nest] at hn
/-- what stands outside is there -/
theorem ev_outer {A : Nat → Prop} (hA : ∀ a : Nat, a < s.heap.size → ¬ A a) (b : Nat) (hts : ∀ w ∈ lw_tbl, w.before args s = true) (hgv : (Jvm.Cond.and given_1 narrow_1).before args s = true) : ev_X (ev_exs args s b) A s s.heap := by
  have hF : ∀ w ∈ ev_FL, w.before args s = true := flat_of_before _ hgv
  have h4 : ∀ (n : Nat) (w : Cond), ev_nw4[n]? = some w → w.before args s = true := fun n w h => hF w (ev_nw4_in w (List.mem_of_getElem? h))
  have hstr : ∀ (j : Nat) (q : String × Nat × String), ev_strs[j]? = some q → ∃ a, (Term.string q.1 q.2.1).eval args s none [] s = some (.ref a) ∧ ev_exs args s b j = a ∧ va_O "java/lang/String" a A s s.heap := by
    intro j q hj
    have hex : (Cond.exactly (.string q.1 q.2.1) "java/lang/String").before args s = true := hF _ (ev_nw1_in _ (List.mem_map.mpr ⟨q, List.mem_of_getElem? hj, rfl⟩))
    obtain ⟨a, c, cA, kA, q1, -⟩ := Cond.exactly_spec (args := args) (first := s) (o := none) (s := s) (idx := []) hex
    exact ⟨a, q1, (ev_exs_str hj).trans (ev_adr_eq q1), va_Oof hex q1 hA⟩
  have hk0 : ev_strs[ev_jk]? = some ("PathProver$Lexer", 20, (ev_strs.getD ev_jk ("", 0, "")).2.2) := rfl
  obtain ⟨ak, ek1, ek2, -⟩ := hstr ev_jk _ hk0
  obtain ⟨t, et1, et2⟩ := va_Tof (tm := ev_kv) (ty := .byte) (N := 135) (f := fun j => .int (ev_kb.getD j 0)) (by decide) (h4 1 _ rfl) (ev_eqT (h4 2 _ rfl)) (fun j hj => ev_eqT (hF _ (ev_nw2_in _ (List.mem_map.mpr ⟨j, List.mem_range.mpr hj, rfl⟩)))) hA
  have e1000 : ev_exs args s b 1000 = t := by
    unfold ev_exs
    rw [if_neg (by decide), if_pos rfl]
    exact ev_adr_eq et1
  refine ⟨fun w hw hn => ev_nest_nw hn (hts w hw), fun j q hj => ?_, ?_, ?_, ?_, ?_, ?_, ?_, ?_, ?_⟩
  · obtain ⟨a, z1, z2, z3⟩ := hstr j q hj
    rw [z2]
    exact ⟨vk_R.of (hts _ (ev_tw_in _ (List.mem_append_left _ (List.mem_map.mpr ⟨q, List.mem_of_getElem? hj, rfl⟩)))) z1, z3⟩
  · rw [ek2]
    exact vk_OFof (t := ev_kt) ek1 (ev_eqT (h4 0 _ rfl)) hA
  · rw [ek2, e1000]
    exact vk_OFof (t := ev_kt) ek1 et1 hA
  · rw [e1000]
    exact et2
  · exact va_Zof (ev_twm 56 rfl hts) (ev_twm 57 rfl hts) (ev_eqT (h4 3 _ rfl)) hA
  · exact va_Zqof (ev_twm 58 rfl hts) (ev_twm 59 rfl hts) (h4 4 _ rfl) hA
  · exact ev_Zr.of (ev_twm 60 rfl hts) (ev_twm 62 rfl hts) (h4 5 _ rfl) hA
  · exact ev_Zr.of (ev_twm 61 rfl hts) (ev_twm 62 rfl hts) (h4 6 _ rfl) hA
  · intro q hq
    exact va_Nc.of (hF _ (ev_nw3_in _ (List.mem_map.mpr ⟨q, hq, rfl⟩)))
end EvEntry
