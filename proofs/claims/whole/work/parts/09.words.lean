/-! The tables' words by their places; what an instruction needs of them -/
def ev_seg (k : Nat) : List Cond :=
  match k with
  | 0 => k2_sels lw_privs
  | 1 => tables_1_1
  | 2 => tables_1_2
  | 3 => tables_1_3
  | 4 => tables_1_4
  | 5 => tables_1_5
  | 6 => tables_1_6
  | 7 => tables_1_7
  | 8 => tables_1_8
  | 9 => tables_1_9
  | 10 => tables_1_10
  | 11 => tables_1_11
  | 12 => tables_1_12
  | 13 => tables_1_13
  | 14 => tables_1_14
  | 15 => tables_1_15
  | 16 => tables_1_16
  | 17 => tables_1_17
  | _ => []
def ev_pl (pl : Nat) : Option Cond := (ev_seg (pl / 1000))[pl % 1000]?
theorem ev_pl_mem {pl : Nat} {w : Cond} (h : ev_pl pl = some w) : w ∈ lw_tbl := by
  unfold ev_pl ev_seg at h
  show w ∈ k2_sels lw_privs ++ tables_1
  unfold tables_1
  split at h
  · exact List.mem_append_left _ (List.mem_of_getElem? h)
  · exact List.mem_append_right _ (List.mem_append_left _ (List.mem_of_getElem? h))
  · exact List.mem_append_right _ (List.mem_append_right _ (List.mem_append_left _ (List.mem_of_getElem? h)))
  · exact List.mem_append_right _ (List.mem_append_right _ (List.mem_append_right _ (List.mem_append_left _ (List.mem_of_getElem? h))))
  · exact List.mem_append_right _ (List.mem_append_right _ (List.mem_append_right _ (List.mem_append_right _ (List.mem_append_left _ (List.mem_of_getElem? h)))))
  · exact List.mem_append_right _ (List.mem_append_right _ (List.mem_append_right _ (List.mem_append_right _ (List.mem_append_right _ (List.mem_append_left _ (List.mem_of_getElem? h))))))
  · exact List.mem_append_right _ (List.mem_append_right _ (List.mem_append_right _ (List.mem_append_right _ (List.mem_append_right _ (List.mem_append_right _ (List.mem_append_left _ (List.mem_of_getElem? h)))))))
  · exact List.mem_append_right _ (List.mem_append_right _ (List.mem_append_right _ (List.mem_append_right _ (List.mem_append_right _ (List.mem_append_right _ (List.mem_append_right _ (List.mem_append_left _ (List.mem_of_getElem? h))))))))
  · exact List.mem_append_right _ (List.mem_append_right _ (List.mem_append_right _ (List.mem_append_right _ (List.mem_append_right _ (List.mem_append_right _ (List.mem_append_right _ (List.mem_append_right _ (List.mem_append_left _ (List.mem_of_getElem? h)))))))))
  · exact List.mem_append_right _ (List.mem_append_right _ (List.mem_append_right _ (List.mem_append_right _ (List.mem_append_right _ (List.mem_append_right _ (List.mem_append_right _ (List.mem_append_right _ (List.mem_append_right _ (List.mem_append_left _ (List.mem_of_getElem? h))))))))))
  · exact List.mem_append_right _ (List.mem_append_right _ (List.mem_append_right _ (List.mem_append_right _ (List.mem_append_right _ (List.mem_append_right _ (List.mem_append_right _ (List.mem_append_right _ (List.mem_append_right _ (List.mem_append_right _ (List.mem_append_left _ (List.mem_of_getElem? h)))))))))))
  · exact List.mem_append_right _ (List.mem_append_right _ (List.mem_append_right _ (List.mem_append_right _ (List.mem_append_right _ (List.mem_append_right _ (List.mem_append_right _ (List.mem_append_right _ (List.mem_append_right _ (List.mem_append_right _ (List.mem_append_right _ (List.mem_append_left _ (List.mem_of_getElem? h))))))))))))
  · exact List.mem_append_right _ (List.mem_append_right _ (List.mem_append_right _ (List.mem_append_right _ (List.mem_append_right _ (List.mem_append_right _ (List.mem_append_right _ (List.mem_append_right _ (List.mem_append_right _ (List.mem_append_right _ (List.mem_append_right _ (List.mem_append_right _ (List.mem_append_left _ (List.mem_of_getElem? h)))))))))))))
  · exact List.mem_append_right _ (List.mem_append_right _ (List.mem_append_right _ (List.mem_append_right _ (List.mem_append_right _ (List.mem_append_right _ (List.mem_append_right _ (List.mem_append_right _ (List.mem_append_right _ (List.mem_append_right _ (List.mem_append_right _ (List.mem_append_right _ (List.mem_append_right _ (List.mem_append_left _ (List.mem_of_getElem? h))))))))))))))
  · exact List.mem_append_right _ (List.mem_append_right _ (List.mem_append_right _ (List.mem_append_right _ (List.mem_append_right _ (List.mem_append_right _ (List.mem_append_right _ (List.mem_append_right _ (List.mem_append_right _ (List.mem_append_right _ (List.mem_append_right _ (List.mem_append_right _ (List.mem_append_right _ (List.mem_append_right _ (List.mem_append_left _ (List.mem_of_getElem? h)))))))))))))))
  · exact List.mem_append_right _ (List.mem_append_right _ (List.mem_append_right _ (List.mem_append_right _ (List.mem_append_right _ (List.mem_append_right _ (List.mem_append_right _ (List.mem_append_right _ (List.mem_append_right _ (List.mem_append_right _ (List.mem_append_right _ (List.mem_append_right _ (List.mem_append_right _ (List.mem_append_right _ (List.mem_append_right _ (List.mem_append_left _ (List.mem_of_getElem? h))))))))))))))))
  · exact List.mem_append_right _ (List.mem_append_right _ (List.mem_append_right _ (List.mem_append_right _ (List.mem_append_right _ (List.mem_append_right _ (List.mem_append_right _ (List.mem_append_right _ (List.mem_append_right _ (List.mem_append_right _ (List.mem_append_right _ (List.mem_append_right _ (List.mem_append_right _ (List.mem_append_right _ (List.mem_append_right _ (List.mem_append_right _ (List.mem_append_left _ (List.mem_of_getElem? h)))))))))))))))))
  · exact List.mem_append_right _ (List.mem_append_right _ (List.mem_append_right _ (List.mem_append_right _ (List.mem_append_right _ (List.mem_append_right _ (List.mem_append_right _ (List.mem_append_right _ (List.mem_append_right _ (List.mem_append_right _ (List.mem_append_right _ (List.mem_append_right _ (List.mem_append_right _ (List.mem_append_right _ (List.mem_append_right _ (List.mem_append_right _ (List.mem_append_right _ (List.mem_of_getElem? h)))))))))))))))))
  · simp at h
/-- the words that hold at every call -/
def ev_Ts : List Cond := lw_tbl.filter goodWord
def ev_hw (pl : Nat) (w : Cond) : Bool := decide (ev_pl pl = some w) && goodWord w
theorem ev_hw_mem {pl : Nat} {w : Cond} (h : ev_hw pl w = true) : w ∈ ev_Ts := by
  simp only [ev_hw, Bool.and_eq_true, decide_eq_true_eq] at h
  exact List.mem_filter.mpr ⟨ev_pl_mem h.1, h.2⟩
/-- words of other kinds, that the tables keep too -/
def ev_nest : Cond → Bool
  | .fieldLinkNest .. => true
  | .methodLinkNest .. => true
  | .arrayOver (.object _) => true
  | .arrayOver (.array _) => true
  | .castable .. => true
  | .declares _ => true
  | _ => false
def ev_nw (pl : Nat) (w : Cond) : Bool := decide (ev_pl pl = some w) && ev_nest w
theorem ev_nw_mem {pl : Nat} {w : Cond} (h : ev_nw pl w = true) : w ∈ lw_tbl ∧ ev_nest w = true := by
  simp only [ev_nw, Bool.and_eq_true, decide_eq_true_eq] at h
  exact ⟨ev_pl_mem h.1, h.2⟩
/-- an instruction's length -/
def ev_ilen : Instr → Nat
  | .bipush _ => 2
  | .sipush _ => 3
  | .ldc _ => 2
  | .iload _ => 2
  | .aload _ => 2
  | .istore _ => 2
  | .astore _ => 2
  | .iinc _ _ => 3
  | .goto _ => 3
  | .if_icmp _ _ => 3
  | .ifCond _ _ => 3
  | .ifnull _ => 3
  | .ifnonnull _ => 3
  | .newarray _ => 2
  | .anewarray _ => 3
  | .new _ => 3
  | .getfield _ => 3
  | .putfield _ => 3
  | .getstatic _ => 3
  | .invokevirtual _ => 3
  | .invokespecial _ => 3
  | .invokestatic _ => 3
  | .ldc_w _ => 3
  | .ldc2_w _ => 3
  | .if_acmp _ _ => 3
  | .instanceof _ => 3
  | .checkcast _ => 3
  | .lload _ => 2
  | .lstore _ => 2
  | _ => 1
def ev_sw : Instr → Bool
  | .tableswitch .. => true
  | .lookupswitch .. => true
  | _ => false
def ev_dec (cc : ByteArray) (pc : Nat) (ins : Instr) : Bool :=
  match decode cc pc with
  | .ok (i, len) => decide (i = ins) && (ev_sw ins || Nat.beq len (ev_ilen ins))
  | _ => false
theorem ev_dec_ok {cc : ByteArray} {pc : Nat} {ins : Instr} (h : ev_dec cc pc ins = true) : ∃ len, decode cc pc = .ok (ins, len) ∧ (ev_sw ins = true ∨ len = ev_ilen ins) := by
  unfold ev_dec at h
  split at h
  · rename_i i len hd
    simp only [Bool.and_eq_true, decide_eq_true_eq, Bool.or_eq_true] at h
    obtain ⟨rfl, h⟩ := h
    exact ⟨len, hd, h.imp id (fun z => Nat.eq_of_beq_eq_true z)⟩
  · cases h
/-- a field's kind -/
def ev_tc (tc : Nat) (ty : FieldType) : Bool :=
  match tc, ty with
  | 0, .int => true
  | 1, .boolean => true
  | 2, .object _ => true
  | 2, .array _ => true
  | 3, .long => true
  | _, _ => false
theorem ev_tc_ok {tc : Nat} {ty : FieldType} (h : ev_tc tc ty = true) : (tc = 0 ∧ ty = .int) ∨ (tc = 1 ∧ ty = .boolean) ∨ (tc = 2 ∧ ((∃ C, ty = .object C) ∨ ∃ t, ty = .array t)) ∨ (tc = 3 ∧ ty = .long) := by
  unfold ev_tc at h
  split at h
  · exact Or.inl ⟨rfl, rfl⟩
  · exact Or.inr (Or.inl ⟨rfl, rfl⟩)
  · exact Or.inr (Or.inr (Or.inl ⟨rfl, Or.inl ⟨_, rfl⟩⟩))
  · exact Or.inr (Or.inr (Or.inl ⟨rfl, Or.inr ⟨_, rfl⟩⟩))
  · exact Or.inr (Or.inr (Or.inr ⟨rfl, rfl⟩))
  · cases h
/-- a field's link: 0 plain, 1 and 2 of a nest mate -/
def ev_gl (own : String) (idx : Nat) (C : String) (T : u_T) (k kd pl : Nat) : Bool :=
  bif Nat.beq kd 0 then ev_hw pl (.fieldLink own idx (T k).1 (T k).2.1 (T k).2.2.1)
  else bif Nat.beq kd 1 then ev_nw pl (.fieldLinkNest own idx (T k).1 (T k).2.1 (T k).2.2.1 "PathProver")
  else ev_nw pl (.fieldLinkNest own idx (T k).1 (T k).2.1 (T k).2.2.1 "PathProverModel")
theorem ev_gl_ok {own : String} {idx : Nat} {C : String} {T : u_T} {k kd pl : Nat} (h : ev_gl own idx C T k kd pl = true) : (kd = 0 ∧ Cond.fieldLink own idx (T k).1 (T k).2.1 (T k).2.2.1 ∈ ev_Ts) ∨ ∃ host, Cond.fieldLinkNest own idx (T k).1 (T k).2.1 (T k).2.2.1 host ∈ lw_tbl ∧ ev_nest (Cond.fieldLinkNest own idx (T k).1 (T k).2.1 (T k).2.2.1 host) = true ∧ ¬ kd = 0 := by
  unfold ev_gl at h
  cases h1 : Nat.beq kd 0 with
  | true =>
    rw [h1] at h
    exact Or.inl ⟨Nat.eq_of_beq_eq_true h1, ev_hw_mem h⟩
  | false =>
    have hk : ¬ kd = 0 := fun z => by subst z; cases h1
    rw [h1] at h
    simp only [cond_false] at h
    cases h2 : Nat.beq kd 1 with
    | true => rw [h2] at h; exact Or.inr ⟨_, (ev_nw_mem h).1, (ev_nw_mem h).2, hk⟩
    | false => rw [h2] at h; exact Or.inr ⟨_, (ev_nw_mem h).1, (ev_nw_mem h).2, hk⟩
/-- what an instruction of a method of class own, named nm, needs -/
def ev_ok2 (own nm : String) (pc : Nat) (ins : Instr) (ops : List Nat) : Bool :=
  match ins with
  | .ldc idx => match ops with
    | [pl, v] => ev_hw pl (.constant own idx (Int32.ofNat v))
    | [_, i, j] => match ev_strs[i]? with
      | some q => decide (q.1 = own) && decide (q.2.1 = idx) && Nat.beq j (ev_nums.getD i 0)
      | none => false
    | _ => false
  | .goto off => match ops with
    | [t] => decide ((pc : Int) + off = (t : Int))
    | _ => false
  | .if_icmp _ off => match ops with
    | [t] => decide ((pc : Int) + off = (t : Int))
    | _ => false
  | .ifCond _ off => match ops with
    | [t] => decide ((pc : Int) + off = (t : Int))
    | _ => false
  | .ifnull off => match ops with
    | [t] => decide ((pc : Int) + off = (t : Int))
    | _ => false
  | .ifnonnull off => match ops with
    | [t] => decide ((pc : Int) + off = (t : Int))
    | _ => false
  | .tableswitch d _ _ offs => match ops with
    | t :: ts => decide ((pc : Int) + d = (t : Int)) && decide (offs.toList.map (fun o => (pc : Int) + o) = ts.map (fun t : Nat => (t : Int)))
    | _ => false
  | .lookupswitch d ps => match ops with
    | t :: ts => decide ((pc : Int) + d = (t : Int)) && decide (ps.toList.map (fun q => (pc : Int) + q.2) = ts.map (fun t : Nat => (t : Int))) && (ps.toList.zip (ps.toList.drop 1)).all (fun (a, next) => a.1 < next.1)
    | _ => false
  | .newarray aty => match ops with
    | [pl, t] => ev_hw pl (.arrayClass (newarray.typeOf aty)) && decide (ev_tys[t]? = some (newarray.typeOf aty))
    | _ => false
  | .anewarray idx => match ops with
    | [pl, t, pl2] => match ev_tys[t]? with
      | some (.object C) => ev_hw pl (.classLink own idx C) && ev_nw pl2 (.arrayOver (.object C))
      | some (.array ft) => ev_hw pl (.classLink own idx (FieldType.array ft).toString) && ev_nw pl2 (.arrayOver (.array ft))
      | _ => false
    | _ => false
  | .new idx => match ops with
    | [pl1, pl2, pl3, ci] => match ev_cl[ci]? with
      | some (C, _, N) => ev_hw pl1 (.classLink own idx C) && ev_hw pl2 (.instantiable C N) && ev_hw pl3 (.initialized C)
      | none => false
    | _ => true
  | .getfield idx => match ops with
    | [kd, pl, ci, k] => match ev_cl[ci]? with
      | some (C, T, N) => Nat.blt k N && ev_gl own idx C T k kd pl
      | none => false
    | [pl, fno] => match fno with
      | 0 => ev_hw pl (.fieldLink own idx "java/lang/String" "value" "[B")
      | _ => ev_hw pl (.fieldLink own idx "java/lang/String" "coder" "B")
    | _ => false
  | .putfield idx => match ops with
    | [kd, pl, ci, k, tc] => match ev_cl[ci]? with
      | some (C, T, N) => Nat.blt k N && ev_tc tc (ev_Y ci k) && (ev_gl own idx C T k kd pl && (decide ((T k).2.2.2 = false) || (Nat.beq kd 0 && decide (nm = "<init>") && decide ((T k).1 = own))))
      | none => false
    | [kd, pl, ci, k, _, _] => match ev_cl[ci]? with
      | some (C, T, N) => Nat.blt k N && decide (ev_Y ci k = .byte) && (ev_gl own idx C T k kd pl && (decide ((T k).2.2.2 = false) || (Nat.beq kd 0 && decide (nm = "<init>") && decide ((T k).1 = own))))
      | none => false
    | _ => false
  | .if_acmp _ off => match ops with
    | [t] => decide ((pc : Int) + off = (t : Int))
    | _ => false
  | .instanceof idx => match ops with
    | [pl] => ev_hw pl (.classLink own idx "java/lang/String")
    | _ => false
  | .checkcast idx => match ops with
    | [pl] => ev_hw pl (.classLink own idx "java/lang/String")
    | [pl, _] => ev_hw pl (.classLink own idx "[B")
    | _ => false
  | .getstatic idx => match ops with
    | [pl] => ev_hw pl (.fieldLink own idx "java/lang/String" "COMPACT_STRINGS" "Z")
    | [pl, _] => ev_hw pl (.fieldLink own idx "jdk/internal/util/Preconditions" "SIOOBE_FORMATTER" "Ljava/util/function/BiFunction;")
    | [pl, _, _] => ev_nw pl (.fieldLinkNest own idx "PathProver" "LEVEL" "[I" "PathProver")
    | _ => false
  | .ldc_w idx => match ops with
    | [pl, v] => ev_hw pl (.constant own idx (Int32.ofNat v))
    | [_, i, j] => match ev_strs[i]? with
      | some q => decide (q.1 = own) && decide (q.2.1 = idx) && Nat.beq j (ev_nums.getD i 0)
      | none => false
    | _ => false
  | .ldc2_w idx => match ops with
    | [pl, v] => ev_hw pl (.constantLong own idx (Int64.ofNat v))
    | _ => false
  | _ => true
def ev_ok (own nm : String) (cc : ByteArray) (i : ev_I) : Bool := ev_dec cc i.1 i.2.1 && ev_ok2 own nm i.1 i.2.1 i.2.2
/-- a class of the list: its words are there; its fields' types and names -/
def ev_cok (ci : Nat) : Prop :=
  ∀ (C : String) (T : u_T) (N : Nat), ev_cl[ci]? = some (C, T, N) → (∀ w ∈ u_ws C T N, w ∈ ev_Ts) ∧ (∀ j, j < N → parseFieldDescriptor (T j).2.2.1 = some (ev_Y ci j)) ∧ (∀ a, a < N → ∀ b, b < N → a ≠ b → (T a).2.1 ≠ (T b).2.1) ∧ (∀ j, j < N → (T j).1 = (T j).1) ∧
    ∀ fs, ev_fds[ci]? = some fs → fs.length = N ∧ ∃ vs : List Value, (∀ j, j < N → defaultValue (ev_Y ci j) = vp_V vs j) ∧ ∀ (al : List Nat) (ex : Nat → Nat), ev_st al ex fs vs
theorem ev_all {α : Type} {f : α → Bool} {a b : List α} (ha : a.all f = true) (hb : b.all f = true) : (a ++ b).all f = true := by rw [List.all_append, ha, hb]; rfl
