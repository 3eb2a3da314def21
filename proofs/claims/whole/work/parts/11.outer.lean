/-! What stands outside of the worlds: table words of other kinds, the String constants, statics -/
def ev_ncs : List (String × String) := ["java/lang/IllegalArgumentException", "java/lang/IllegalStateException", "java/lang/UnsupportedOperationException", "java/lang/IndexOutOfBoundsException"].flatMap fun a => (["java/lang/IllegalArgumentException", "java/lang/IllegalStateException", "java/lang/UnsupportedOperationException", "java/lang/IndexOutOfBoundsException"].filter (fun b => decide (a ≠ b))).map fun b => (a, b)
/-- a static field that its class lays -/
def ev_ZL (C n d : String) (A : Nat → Prop) (U : State) (H : Heap) : Prop := ∃ (c : ClassId) (k : Class) (i : Nat) (f : Field) (a : Nat) (cell : Cell), U.vm.findClass C = some c ∧ U.fieldFound? C n d = some (c, k, i, f) ∧ f.isStatic = true ∧ k.statics = some a ∧ H[a]? = some cell ∧ cell.vm.isStatics = true ∧ cell.cls = c ∧ f.slot < cell.slots.size ∧ k.staticTypes[f.slot]? = some f.type ∧ ¬ A a
def ev_Zr (C n d : String) (A : Nat → Prop) (U : State) (H : Heap) : Prop := va_Zq C n d A U H ∧ ev_ZL C n d A U H
theorem ev_Zr.moved {C n d : String} {A : Nat → Prop} {u U : State} {H : Heap} (hvm : u.vm.Alike U.vm) (h : ev_Zr C n d A u H) : ev_Zr C n d A U H := by
  refine ⟨va_Zq.moved hvm h.1, ?_⟩
  obtain ⟨c, k, i, f, a, cell, h0, h1, h2, h3, h4, h5, h6, h7, h8, h9⟩ := h.2
  obtain ⟨k', hi', he⟩ := State.fieldFound?_setVm hvm h1
  exact ⟨c, k', i, f, a, cell, by rw [hvm.findClass]; exact h0, hi', h2, by rw [he]; exact h3, h4, h5, h6, h7, by rw [he]; exact h8, h9⟩
theorem ev_Zr.kept {C n d : String} {A : Nat → Prop} {U : State} {H H1 : Heap} (h : ev_Zr C n d A U H) (hq : ∀ a : Nat, a < H.size → ¬ A a → H1[a]? = H[a]?) : ev_Zr C n d A U H1 := by
  refine ⟨h.1.kept hq, ?_⟩
  obtain ⟨c, k, i, f, a, cell, h0, h1, h2, h3, h4, h5, h6, h7, h8, h9⟩ := h.2
  exact ⟨c, k, i, f, a, cell, h0, h1, h2, h3, by rw [hq a (Array.getElem?_eq_some_iff.mp h4).1 h9]; exact h4, h5, h6, h7, h8, h9⟩
theorem ev_Zr.narrow {C n d : String} {A B : Nat → Prop} {U : State} {H : Heap} (h : ev_Zr C n d A U H) (hAB : ∀ q, B q → A q) : ev_Zr C n d B U H := by
  refine ⟨h.1.narrow hAB, ?_⟩
  obtain ⟨c, k, i, f, a, cell, h0, h1, h2, h3, h4, h5, h6, h7, h8, h9⟩ := h.2
  exact ⟨c, k, i, f, a, cell, h0, h1, h2, h3, h4, h5, h6, h7, h8, fun z => h9 (hAB a z)⟩
theorem ev_Zr.of {args : Array Value} {s : State} {C n d : String} {A : Nat → Prop} (hl : (Cond.laysStatic C n d).before args s = true) (hini : (Cond.initialized C).before args s = true) (h : (Cond.isRef (.static C n d)).before args s = true) (hA : ∀ a : Nat, a < s.heap.size → ¬ A a) : ev_Zr C n d A s s.heap := by
  refine ⟨va_Zqof hl hini h hA, ?_⟩
  obtain ⟨c, k, i, f, a, cell, hc, hi, hst, ha, hcell, hs, hcls, hlt, hty⟩ := Cond.laysStatic_spec hl
  exact ⟨c, k, i, f, a, cell, hc, hi, hst, ha, hcell, hs, hcls, hlt, hty, hA a (Array.getElem?_eq_some_iff.mp hcell).1⟩
theorem ev_ZL.lays {args : Array Value} {s : State} {C n d : String} {A : Nat → Prop} (h : ev_ZL C n d A s s.heap) : (Cond.laysStatic C n d).before args s = true := by
  obtain ⟨c, k, i, f, a, cell, h0, h1, h2, h3, h4, h5, h6, h7, h8, h9⟩ := h
  exact Cond.laysStatic_of h0 h1 h2 h3 h4 h5 h6 h7 h8
/-- private methods, by the tables -/
def ev_privw : Cond → Bool
  | .privateMethod _ => true
  | _ => false
def ev_pv (pl : Nat) (w : Cond) : Bool := decide (ev_pl pl = some w) && ev_privw w
theorem ev_pv_mem {pl : Nat} {w : Cond} (h : ev_pv pl w = true) : w ∈ lw_tbl ∧ ev_privw w = true := by
  simp only [ev_pv, Bool.and_eq_true, decide_eq_true_eq] at h
  exact ⟨ev_pl_mem h.1, h.2⟩
def ev_X (ex : Nat → Nat) (A : Nat → Prop) (U : State) (H : Heap) : Prop :=
  (∀ w ∈ lw_tbl, ev_nest w = true → va_Nw w U) ∧
  (∀ (i : Nat) (q : String × Nat × String), ev_strs[i]? = some q → vk_R q.1 q.2.1 q.2.2 (ex (ev_nums.getD i 0)) U) ∧
  (∀ j : Nat, j < ev_jk → va_O "java/lang/String" (ex j) A U H ∧ va_OF "java/lang/String" "coder" "B" (.int 0) (ex j) A U H ∧ va_OF "java/lang/String" "value" "[B" (.ref (ex (1000 + j))) (ex j) A U H ∧ va_T .byte (ex (1000 + j)) (ev_kb.getD j []).length (fun i => .int ((ev_kb.getD j []).getD i 0)) A U H) ∧
  va_T .int (ex (1000 + ev_jk)) (ev_kb.getD ev_jk []).length (fun i => .int ((ev_kb.getD ev_jk []).getD i 0)) A U H ∧
  va_Z "PathProver" "LEVEL" "[I" (.ref (ex (1000 + ev_jk))) A U H ∧
  va_Z "java/lang/String" "COMPACT_STRINGS" "Z" (.int 1) A U H ∧
  va_Zq "jdk/internal/util/Preconditions" "SIOOBE_FORMATTER" "Ljava/util/function/BiFunction;" A U H ∧
  ev_Zr "java/lang/Throwable" "UNASSIGNED_STACK" "[Ljava/lang/StackTraceElement;" A U H ∧
  ev_Zr "java/lang/Throwable" "SUPPRESSED_SENTINEL" "Ljava/util/List;" A U H ∧
  (∀ q ∈ ev_ncs, va_Nc q.1 q.2 U) ∧ ∀ w ∈ lw_tbl, ev_privw w = true → va_Nw w U
theorem ev_nest_warm {w : Cond} (hn : ev_nest w = true) {s U : State} (hW : s.WarmedH U.vm) (h : va_Nw w s) : va_Nw w U := by
  cases w with
  | fieldLinkNest a i b n d h' => exact va_Nw.warmF hW h
  | methodLinkNest a i x h' => exact va_Nw.warmM hW h
  | castable C T => exact va_Nw.warmC hW h
  | declares x => exact va_Nw.warmD hW h
  | arrayOver t =>
    cases t with
    | object C => exact va_AO.moved hW.alike h
    | array t => exact over_moved hW.alike h
    | _ => simp [ev_nest] at hn
  | _ => simp [ev_nest] at hn
theorem ev_priv_warm {w : Cond} (hn : ev_privw w = true) {s U : State} (hW : s.WarmedH U.vm) (h : va_Nw w s) : va_Nw w U := by
  cases w with
  | privateMethod x => exact va_tabs rfl (rfl : (s.setVm U.vm).vm = U.vm) (by rw [Cond.privateMethod_setVm hW.alike]; exact h)
  | _ => simp [ev_privw] at hn
theorem ev_X.priv {ex : Nat → Nat} {A : Nat → Prop} {U : State} {H : Heap} (h : ev_X ex A U H) {w : Cond} (hw : w ∈ lw_tbl) (hp : ev_privw w = true) : va_Nw w U := h.2.2.2.2.2.2.2.2.2.2 w hw hp
theorem ev_X.kept {ex : Nat → Nat} {A : Nat → Prop} {U : State} {H H1 : Heap} (h : ev_X ex A U H) (hq : ∀ a : Nat, a < H.size → ¬ A a → H1[a]? = H[a]?) : ev_X ex A U H1 := by
  obtain ⟨h1, h2, h3, h4, h5, h6, h7, h8, h9, h10⟩ := h
  exact ⟨h1, h2, fun j hj => ⟨(h3 j hj).1.kept hq, (h3 j hj).2.1.kept hq, (h3 j hj).2.2.1.kept hq, (h3 j hj).2.2.2.kept hq⟩, h4.kept hq, h5.kept hq, h6.kept hq, h7.kept hq, h8.kept hq, h9.kept hq, h10⟩
theorem ev_X.narrow {ex : Nat → Nat} {A B : Nat → Prop} {U : State} {H : Heap} (h : ev_X ex A U H) (hAB : ∀ q, B q → A q) : ev_X ex B U H := by
  obtain ⟨h1, h2, h3, h4, h5, h6, h7, h8, h9, h10⟩ := h
  exact ⟨h1, h2, fun j hj => ⟨(h3 j hj).1.narrow hAB, (h3 j hj).2.1.narrow hAB, (h3 j hj).2.2.1.narrow hAB, (h3 j hj).2.2.2.narrow hAB⟩, h4.narrow hAB, h5.narrow hAB, h6.narrow hAB, h7.narrow hAB, h8.narrow hAB, h9.narrow hAB, h10⟩
theorem ev_X.warm {ex : Nat → Nat} {A : Nat → Prop} {s U : State} {H : Heap} (hW : s.WarmedH U.vm) (h : ev_X ex A s H) : ev_X ex A U H := by
  obtain ⟨h1, h2, h3, h4, h5, h6, h7, h8, h9, h10⟩ := h
  have hv := hW.alike
  exact ⟨fun w hw hn => ev_nest_warm hn hW (h1 w hw hn), fun j q hj => vk_R.warm hW (h2 j q hj), fun j hj => ⟨va_O.moved hv (h3 j hj).1, va_OF.moved hv (h3 j hj).2.1, va_OF.moved hv (h3 j hj).2.2.1, va_T.moved hv (h3 j hj).2.2.2⟩, va_T.moved hv h4, va_Z.moved hv h5, va_Z.moved hv h6, va_Zq.moved hv h7, ev_Zr.moved hv h8, ev_Zr.moved hv h9, fun q hq => va_Nc.moved hv (h10.1 q hq), fun w hw hn => ev_priv_warm hn hW (h10.2 w hw hn)⟩
theorem ev_X.same {ex : Nat → Nat} {A : Nat → Prop} {u U : State} {H : Heap} (hv : U.vm = u.vm) (h : ev_X ex A u H) : ev_X ex A U H := by
  have hW : u.WarmedH U.vm := by rw [hv]; exact State.WarmedH.refl u
  exact ev_X.warm hW h
