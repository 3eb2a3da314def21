/-! What stands outside of the worlds: table words of other kinds, the String constants, statics -/
def ev_ncs : List (String × String) := ["java/lang/IllegalArgumentException", "java/lang/IllegalStateException", "java/lang/UnsupportedOperationException", "java/lang/IndexOutOfBoundsException"].flatMap fun a => (["java/lang/IllegalArgumentException", "java/lang/IllegalStateException", "java/lang/UnsupportedOperationException", "java/lang/IndexOutOfBoundsException"].filter (fun b => decide (a ≠ b))).map fun b => (a, b)
def ev_X (ex : Nat → Nat) (A : Nat → Prop) (U : State) (H : Heap) : Prop :=
  (∀ w ∈ lw_tbl, ev_nest w = true → va_Nw w U) ∧
  (∀ (j : Nat) (q : String × Nat × String), ev_strs[j]? = some q → vk_R q.1 q.2.1 q.2.2 (ex j) U ∧ va_O "java/lang/String" (ex j) A U H) ∧
  va_OF "java/lang/String" "coder" "B" (.int 0) (ex ev_jk) A U H ∧ va_OF "java/lang/String" "value" "[B" (.ref (ex 1000)) (ex ev_jk) A U H ∧
  va_T .byte (ex 1000) ev_kb.length (fun j => .int (ev_kb.getD j 0)) A U H ∧
  va_Z "java/lang/String" "COMPACT_STRINGS" "Z" (.int 1) A U H ∧
  va_Zq "jdk/internal/util/Preconditions" "SIOOBE_FORMATTER" "Ljava/util/function/BiFunction;" A U H ∧
  va_Zq "java/lang/Throwable" "UNASSIGNED_STACK" "[Ljava/lang/StackTraceElement;" A U H ∧
  va_Zq "java/lang/Throwable" "SUPPRESSED_SENTINEL" "Ljava/util/List;" A U H ∧
  ∀ q ∈ ev_ncs, va_Nc q.1 q.2 U
theorem ev_nest_warm {w : Cond} (hn : ev_nest w = true) {s U : State} (hW : s.WarmedH U.vm) (h : va_Nw w s) : va_Nw w U := by
  cases w with
  | fieldLinkNest a i b n d h' => exact va_Nw.warmF hW h
  | methodLinkNest a i x h' => exact va_Nw.warmM hW h
  | castable C T => exact va_Nw.warmC hW h
  | arrayOver t =>
    cases t with
    | object C => exact va_AO.moved hW.alike h
    | array t => exact over_moved hW.alike h
    | _ => simp [ev_nest] at hn
  | _ => simp [ev_nest] at hn
theorem ev_X.kept {ex : Nat → Nat} {A : Nat → Prop} {U : State} {H H1 : Heap} (h : ev_X ex A U H) (hq : ∀ a : Nat, a < H.size → ¬ A a → H1[a]? = H[a]?) : ev_X ex A U H1 := by
  obtain ⟨h1, h2, h3, h4, h5, h6, h7, h8, h9, h10⟩ := h
  exact ⟨h1, fun j q hj => ⟨(h2 j q hj).1, (h2 j q hj).2.kept hq⟩, h3.kept hq, h4.kept hq, h5.kept hq, h6.kept hq, h7.kept hq, h8.kept hq, h9.kept hq, h10⟩
theorem ev_X.narrow {ex : Nat → Nat} {A B : Nat → Prop} {U : State} {H : Heap} (h : ev_X ex A U H) (hAB : ∀ q, B q → A q) : ev_X ex B U H := by
  obtain ⟨h1, h2, h3, h4, h5, h6, h7, h8, h9, h10⟩ := h
  exact ⟨h1, fun j q hj => ⟨(h2 j q hj).1, (h2 j q hj).2.narrow hAB⟩, h3.narrow hAB, h4.narrow hAB, h5.narrow hAB, h6.narrow hAB, h7.narrow hAB, h8.narrow hAB, h9.narrow hAB, h10⟩
theorem ev_X.warm {ex : Nat → Nat} {A : Nat → Prop} {s U : State} {H : Heap} (hW : s.WarmedH U.vm) (h : ev_X ex A s H) : ev_X ex A U H := by
  obtain ⟨h1, h2, h3, h4, h5, h6, h7, h8, h9, h10⟩ := h
  have hv := hW.alike
  exact ⟨fun w hw hn => ev_nest_warm hn hW (h1 w hw hn), fun j q hj => ⟨vk_R.warm hW (h2 j q hj).1, va_O.moved hv (h2 j q hj).2⟩, va_OF.moved hv h3, va_OF.moved hv h4, va_T.moved hv h5, va_Z.moved hv h6, va_Zq.moved hv h7, va_Zq.moved hv h8, va_Zq.moved hv h9, fun q hq => va_Nc.moved hv (h10 q hq)⟩
theorem ev_X.same {ex : Nat → Nat} {A : Nat → Prop} {u U : State} {H : Heap} (hv : U.vm = u.vm) (h : ev_X ex A u H) : ev_X ex A U H := by
  have hW : u.WarmedH U.vm := by rw [hv]; exact State.WarmedH.refl u
  exact ev_X.warm hW h
