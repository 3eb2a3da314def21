/-! What a value, a stack, locals, a cell, a world of the evaluator stand for. al: the addresses of the world's cells; ex: those of the outer objects -/
def ev_rel (al : List Nat) (ex : Nat → Nat) (x : ev_V) (v : Value) : Prop :=
  match x with
  | .inl (.ref k) => ∃ a, al[k]? = some a ∧ v = .ref a
  | .inl (.retAddr j) => v = .ref (ex j)
  | .inl w => v = w
  | .inr none => v = .null ∨ ∃ a, v = .ref a
  | .inr (some b) => ∃ x : Int32, v = .int x ∧ b.1 ≤ x.toInt ∧ x.toInt ≤ b.2
def ev_st (al : List Nat) (ex : Nat → Nat) : List ev_V → List Value → Prop
  | [], [] => True
  | x :: S, v :: st => ev_rel al ex x v ∧ ev_st al ex S st
  | _, _ => False
def ev_lv (al : List Nat) (ex : Nat → Nat) : List (Nat × ev_V) → List (Nat × Value) → Prop
  | [], [] => True
  | x :: L, v :: lv => x.1 = v.1 ∧ ev_rel al ex x.2 v.2 ∧ ev_lv al ex L lv
  | _, _ => False
def ev_arr (al : List Nat) (ex : Nat → Nat) (cA : ClassId) (t n : Nat) (d : ev_V) (wr : List (Nat × ev_V)) (E : va_E) : Prop :=
  match t with
  | 0 => ∃ f : Nat → Int32, E = .inl (cA, n, .inl f) ∧ ∀ i, i < n → ev_rel al ex (ev_at d wr i) (.int (f i))
  | 1 => ∃ f : Nat → Int32, E = .inl (cA, n, .inl f) ∧ ∀ i, i < n → ev_rel al ex (ev_at d wr i) (.int (f i))
  | 2 => ∃ f : Nat → Int64, E = .inl (cA, n, .inr (.inl f)) ∧ ∀ i, i < n → ev_rel al ex (ev_at d wr i) (.long (f i))
  | 8 => ∃ f : Nat → Int32, E = .inl (cA, n, .inl f) ∧ ∀ i, i < n → ev_rel al ex (ev_at d wr i) (.int (f i))
  | _ => ∃ f : Nat → Option Nat, E = .inl (cA, n, .inr (.inr (.inr (.inr f)))) ∧ ∀ i, i < n → ev_rel al ex (ev_at d wr i) (va_rf (f i))
def ev_cell (al : List Nat) (ex : Nat → Nat) (tys : List (ClassId × FieldType)) (x : ev_C) (E : va_E) : Prop :=
  match x with
  | .inl (ci, fs) => ∃ vs, E = .inr (ci, vs) ∧ ev_st al ex fs vs
  | .inr (t, n, d, wr) => ∃ (cA : ClassId) (ty : FieldType), tys[t]? = some (cA, ty) ∧ ev_arr al ex cA t n d wr E
def ev_w (al : List Nat) (ex : Nat → Nat) (tys : List (ClassId × FieldType)) (w : List ev_C) (ws : va_W) : Prop :=
  ws.map Prod.fst = al ∧ w.length = ws.length ∧ ∀ (k : Nat) (x : ev_C), w[k]? = some x → ∃ (a : Nat) (E : va_E), al[k]? = some a ∧ ws[k]? = some (a, E) ∧ ev_cell al ex tys x E
section EvPure
variable {al al' : List Nat} {ex : Nat → Nat} {tys : List (ClassId × FieldType)}
theorem ev_rel.mono (h : al <+: al') {x : ev_V} {v : Value} (hr : ev_rel al ex x v) : ev_rel al' ex x v := by
  obtain ⟨t, rfl⟩ := h
  rcases x with (w | b)
  · cases w with
    | ref k =>
      obtain ⟨a, h1, h2⟩ := hr
      refine ⟨a, ?_, h2⟩
      have hk : k < al.length := (List.getElem?_eq_some_iff.mp h1).1
      rw [List.getElem?_append_left hk]
      exact h1
    | _ => exact hr
  · cases b with
    | none => exact hr
    | some b => exact hr
theorem ev_st.mono (h : al <+: al') : ∀ {S : List ev_V} {st : List Value}, ev_st al ex S st → ev_st al' ex S st
  | [], [], _ => trivial
  | _ :: _, _ :: _, hs => ⟨ev_rel.mono h hs.1, ev_st.mono h hs.2⟩
  | [], _ :: _, hs => hs.elim
  | _ :: _, [], hs => hs.elim
theorem ev_lv.mono (h : al <+: al') : ∀ {S : List (Nat × ev_V)} {st : List (Nat × Value)}, ev_lv al ex S st → ev_lv al' ex S st
  | [], [], _ => trivial
  | _ :: _, _ :: _, hs => ⟨hs.1, ev_rel.mono h hs.2.1, ev_lv.mono h hs.2.2⟩
  | [], _ :: _, hs => hs.elim
  | _ :: _, [], hs => hs.elim
theorem ev_arr.mono (h : al <+: al') {cA : ClassId} {t n : Nat} {d : ev_V} {wr : List (Nat × ev_V)} {E : va_E} (hs : ev_arr al ex cA t n d wr E) : ev_arr al' ex cA t n d wr E := by
  unfold ev_arr at hs ⊢
  split at hs
  all_goals (obtain ⟨f, e, k⟩ := hs; exact ⟨f, e, fun i hi => ev_rel.mono h (k i hi)⟩)
theorem ev_cell.mono (h : al <+: al') {x : ev_C} {E : va_E} (hs : ev_cell al ex tys x E) : ev_cell al' ex tys x E := by
  rcases x with (⟨ci, fs⟩ | ⟨t, n, d, wr⟩)
  · obtain ⟨vs, e, k⟩ := hs
    exact ⟨vs, e, ev_st.mono h k⟩
  · obtain ⟨cA, ty, e, k⟩ := hs
    exact ⟨cA, ty, e, ev_arr.mono h k⟩
theorem ev_st_cons {x : ev_V} {S : List ev_V} {st : List Value} (h : ev_st al ex (x :: S) st) : ∃ (v : Value) (st' : List Value), st = v :: st' ∧ ev_rel al ex x v ∧ ev_st al ex S st' := by
  cases st with
  | nil => exact h.elim
  | cons v st' => exact ⟨v, st', rfl, h.1, h.2⟩
theorem ev_st_len : ∀ {S : List ev_V} {st : List Value}, ev_st al ex S st → S.length = st.length
  | [], [], _ => rfl
  | _ :: _, _ :: _, hs => by simp [ev_st_len hs.2]
  | [], _ :: _, hs => hs.elim
  | _ :: _, [], hs => hs.elim
theorem ev_st_get : ∀ {S : List ev_V} {st : List Value}, ev_st al ex S st → ∀ {k : Nat} {x : ev_V}, S[k]? = some x → ∃ v, st[k]? = some v ∧ ev_rel al ex x v
  | [], _, _, k, x, hk => by simp at hk
  | x0 :: S, v :: st, hs, 0, x, hk => by
    simp at hk
    subst hk
    exact ⟨v, by simp, hs.1⟩
  | _ :: S, v :: st, hs, k + 1, x, hk => by
    simp at hk
    obtain ⟨v', h1, h2⟩ := ev_st_get hs.2 hk
    exact ⟨v', by simpa using h1, h2⟩
  | _ :: _, [], hs, _, _, _ => hs.elim
theorem ev_st_set : ∀ {S : List ev_V} {st : List Value}, ev_st al ex S st → ∀ (k : Nat) {x : ev_V} {v : Value}, ev_rel al ex x v → ev_st al ex (S.set k x) (st.set k v)
  | [], [], _, k, x, v, _ => by simp [ev_st]
  | x0 :: S, v0 :: st, hs, 0, x, v, h => ⟨h, hs.2⟩
  | x0 :: S, v0 :: st, hs, k + 1, x, v, h => ⟨hs.1, ev_st_set hs.2 k h⟩
  | [], _ :: _, hs, _, _, _, _ => hs.elim
  | _ :: _, [], hs, _, _, _, _ => hs.elim
theorem ev_st_app : ∀ {S T : List ev_V} {st tt : List Value}, ev_st al ex S st → ev_st al ex T tt → ev_st al ex (S ++ T) (st ++ tt)
  | [], _, [], _, _, h => h
  | _ :: _, _, _ :: _, _, hs, h => ⟨hs.1, ev_st_app hs.2 h⟩
  | [], _, _ :: _, _, hs, _ => hs.elim
  | _ :: _, _, [], _, hs, _ => hs.elim
theorem ev_st_split : ∀ {S T : List ev_V} {st : List Value}, ev_st al ex (S ++ T) st → ∃ s1 s2, st = s1 ++ s2 ∧ ev_st al ex S s1 ∧ ev_st al ex T s2
  | [], _, st, h => ⟨[], st, rfl, trivial, h⟩
  | x :: S, T, st, h => by
    obtain ⟨v, st', rfl, h1, h2⟩ := ev_st_cons (S := S ++ T) h
    obtain ⟨s1, s2, rfl, h3, h4⟩ := ev_st_split h2
    exact ⟨v :: s1, s2, rfl, ⟨h1, h3⟩, h4⟩
theorem ev_st_rev {S : List ev_V} {st : List Value} (h : ev_st al ex S st) : ev_st al ex S.reverse st.reverse := by
  induction S generalizing st with
  | nil =>
    cases st with
    | nil => trivial
    | cons v st => exact h.elim
  | cons x S ih =>
    obtain ⟨v, st', rfl, h1, h2⟩ := ev_st_cons h
    rw [List.reverse_cons, List.reverse_cons]
    exact ev_st_app (ih h2) ⟨h1, trivial⟩
theorem ev_rel_I {x : ev_V} {v : Value} (hx : ev_isI x = true) (h : ev_rel al ex x v) : ∃ n : Int32, v = .int n := by
  rcases x with (w | b)
  · cases w <;> first | (simp [ev_isI] at hx; done) | exact ⟨_, h⟩
  · cases b with
    | none => simp [ev_isI] at hx
    | some b => exact ⟨h.choose, h.choose_spec.1⟩
theorem ev_rel_R {x : ev_V} {v : Value} (hx : ev_isR x = true) (h : ev_rel al ex x v) : v = .null ∨ ∃ a, v = .ref a := by
  rcases x with (w | b)
  · cases w with
    | ref k => obtain ⟨a, -, h⟩ := h; exact Or.inr ⟨a, h⟩
    | retAddr j => exact Or.inr ⟨_, h⟩
    | null => exact Or.inl h
    | _ => simp [ev_isR] at hx
  · cases b with
    | none => exact h
    | some b => simp [ev_isR] at hx
theorem ev_rel_c1 {x : ev_V} {v : Value} (hx : ev_c1 x = true) (h : ev_rel al ex x v) : v.category = 1 := by
  rcases x with (w | b)
  · cases w with
    | ref k => obtain ⟨a, -, h⟩ := h; subst h; rfl
    | retAddr j => have h : v = .ref (ex j) := h; subst h; rfl
    | long z => simp [ev_c1] at hx
    | double z => simp [ev_c1] at hx
    | int z => have h : v = .int z := h; subst h; rfl
    | float z => have h : v = .float z := h; subst h; rfl
    | null => have h : v = .null := h; subst h; rfl
  · cases b with
    | none => rcases h with rfl | ⟨a, rfl⟩ <;> rfl
    | some b => obtain ⟨z, rfl, -⟩ := h; rfl
theorem ev_int_some {x : ev_V} {n : Int32} (h : ev_int x = some n) : x = .inl (.int n) := by
  rcases x with (w | b)
  · cases w <;> simp [ev_int] at h
    subst h; rfl
  · cases b <;> simp [ev_int] at h
theorem ev_isI_int {x : ev_V} {n : Int32} (h : ev_int x = some n) : ev_isI x = true := by
  rw [ev_int_some h]; rfl
theorem ev_top_rel (n : Int32) : ev_rel al ex ev_top (.int n) := by
  have h1 := Int32.le_toInt n
  have h2 := Int32.toInt_lt n
  refine ⟨n, rfl, ?_, ?_⟩
  · show (-2147483648 : Int) ≤ n.toInt
    omega
  · show n.toInt ≤ (2147483647 : Int)
    omega
theorem ev_op2_rel {g : Int32 → Int32 → Int32} {a b r : ev_V} {va vb : Value} (h : ev_op2 g a b = some r) (ha : ev_rel al ex a va) (hb : ev_rel al ex b vb) : ∃ x y : Int32, va = .int x ∧ vb = .int y ∧ ev_rel al ex r (.int (g x y)) := by
  unfold ev_op2 at h
  split at h
  · rename_i x y h1 h2
    rw [ev_int_some h1] at ha
    rw [ev_int_some h2] at hb
    cases h
    exact ⟨x, y, ha, hb, rfl⟩
  · cases h1 : (ev_isI a && ev_isI b) with
    | false => rw [h1] at h; cases h
    | true =>
      rw [h1] at h
      cases h
      simp only [Bool.and_eq_true] at h1
      obtain ⟨x, rfl⟩ := ev_rel_I h1.1 ha
      obtain ⟨y, rfl⟩ := ev_rel_I h1.2 hb
      exact ⟨x, y, rfl, rfl, ev_top_rel _⟩
theorem ev_op1_rel {g : Int32 → Int32} {a r : ev_V} {va : Value} (h : ev_op1 g a = some r) (ha : ev_rel al ex a va) : ∃ x : Int32, va = .int x ∧ ev_rel al ex r (.int (g x)) := by
  unfold ev_op1 at h
  split at h
  · rename_i x h1
    rw [ev_int_some h1] at ha
    cases h
    exact ⟨x, ha, rfl⟩
  · cases h1 : ev_isI a with
    | false => rw [h1] at h; cases h
    | true =>
      rw [h1] at h
      cases h
      obtain ⟨x, rfl⟩ := ev_rel_I h1 ha
      exact ⟨x, rfl, ev_top_rel _⟩
theorem ev_bnd_rel {a : ev_V} {b : Int × Int} {x : Int32} (h : ev_bnd a = some b) (ha : ev_rel al ex a (.int x)) : b.1 ≤ x.toInt ∧ x.toInt ≤ b.2 := by
  rcases a with (w | o)
  · cases w <;> simp [ev_bnd] at h
    have e : (Value.int x) = .int _ := ha
    cases e
    subst h
    exact ⟨Int.le_refl _, Int.le_refl _⟩
  · cases o with
    | none => simp [ev_bnd] at h
    | some o =>
      simp [ev_bnd] at h
      subst h
      obtain ⟨z, e, h1, h2⟩ := ha
      cases e
      exact ⟨h1, h2⟩
theorem ev_bnd_int {a : ev_V} {b : Int × Int} {v : Value} (h : ev_bnd a = some b) (ha : ev_rel al ex a v) : ∃ x : Int32, v = .int x := by
  rcases a with (w | o)
  · cases w <;> simp [ev_bnd] at h
    exact ⟨_, ha⟩
  · cases o with
    | none => simp [ev_bnd] at h
    | some o => exact ⟨ha.choose, ha.choose_spec.1⟩
theorem ev_bif {α : Type} {b : Bool} {x y : α} (h : (bif b then some x else none) = some y) : b = true ∧ x = y := by
  cases b with
  | false => cases h
  | true => cases h; exact ⟨rfl, rfl⟩
theorem ev_lt_rel {a b : ev_V} {t : Bool} {va vb : Value} (h : ev_lt a b = some t) (ha : ev_rel al ex a va) (hb : ev_rel al ex b vb) : ∃ x y : Int32, va = .int x ∧ vb = .int y ∧ (t = true → x < y) ∧ (t = false → ¬ x < y) := by
  unfold ev_lt at h
  split at h
  · rename_i al1 ah1 bl1 bh1 h1 h2
    obtain ⟨x, rfl⟩ := ev_bnd_int h1 ha
    obtain ⟨y, rfl⟩ := ev_bnd_int h2 hb
    have k1 := ev_bnd_rel h1 ha
    have k2 := ev_bnd_rel h2 hb
    dsimp only at k1 k2
    refine ⟨x, y, rfl, rfl, fun e => ?_, fun e => ?_⟩
    · subst e
      rw [Int32.lt_iff_toInt_lt]
      by_cases q : ah1 < bl1
      · omega
      · by_cases q2 : bh1 ≤ al1 <;> simp [q, q2] at h
    · subst e
      rw [Int32.lt_iff_toInt_lt]
      by_cases q : ah1 < bl1
      · simp [q] at h
      · by_cases q2 : bh1 ≤ al1
        · omega
        · simp [q, q2] at h
  · cases h
theorem ev_eq_rel {a b : ev_V} {t : Bool} {va vb : Value} (h : ev_eq a b = some t) (ha : ev_rel al ex a va) (hb : ev_rel al ex b vb) : ∃ x y : Int32, va = .int x ∧ vb = .int y ∧ (t = true → x = y) ∧ (t = false → ¬ x = y) := by
  unfold ev_eq at h
  split at h
  · rename_i al1 ah1 bl1 bh1 h1 h2
    obtain ⟨x, rfl⟩ := ev_bnd_int h1 ha
    obtain ⟨y, rfl⟩ := ev_bnd_int h2 hb
    have k1 := ev_bnd_rel h1 ha
    have k2 := ev_bnd_rel h2 hb
    dsimp only at k1 k2
    refine ⟨x, y, rfl, rfl, fun e => ?_, fun e => ?_⟩
    · subst e
      rw [← Int32.toInt_inj]
      by_cases q : ah1 < bl1
      · simp [q] at h
      · by_cases q2 : bh1 < al1
        · simp [q, q2] at h
        · simp only [q, q2, decide_false, cond_false] at h
          have hz := (ev_bif h).1
          simp only [Bool.and_eq_true, decide_eq_true_eq] at hz
          omega
    · subst e
      rw [← Int32.toInt_inj]
      by_cases q : ah1 < bl1
      · omega
      · by_cases q2 : bh1 < al1
        · omega
        · simp only [q, q2, decide_false, cond_false] at h
          cases (ev_bif h).2
  · cases h
theorem ev_not_some {o : Option Bool} {t : Bool} (h : ev_not o = some t) : o = some (!t) := by
  cases o with
  | none => cases h
  | some b => cases b <;> cases h <;> rfl
theorem ev_rel_cat {x : ev_V} {v : Value} (h : ev_rel al ex x v) : (v.category == 2) = !ev_c1 x := by
  rcases x with (w | b)
  · cases w with
    | ref k => obtain ⟨a, -, h⟩ := h; subst h; rfl
    | retAddr j => have h : v = .ref (ex j) := h; subst h; rfl
    | long z => have h : v = .long z := h; subst h; rfl
    | double z => have h : v = .double z := h; subst h; rfl
    | int z => have h : v = .int z := h; subst h; rfl
    | float z => have h : v = .float z := h; subst h; rfl
    | null => have h : v = .null := h; subst h; rfl
  · cases b with
    | none => rcases h with rfl | ⟨a, rfl⟩ <;> rfl
    | some b => obtain ⟨z, rfl, -⟩ := h; rfl
theorem ev_wds_sum : ∀ {S : List ev_V} {st : List Value}, ev_st al ex S st → (st.map fun v => v.category).sum = ev_wds S
  | [], [], _ => rfl
  | x :: S, v :: st, hs => by
    have h1 := ev_rel_cat hs.1
    have h2 := ev_wds_sum hs.2
    have h3 : v.category = 1 ∨ v.category = 2 := by cases v <;> first | exact Or.inl rfl | exact Or.inr rfl
    simp only [List.map_cons, List.sum_cons, ev_wds, h2]
    cases hc : ev_c1 x with
    | true =>
      rw [hc] at h1
      rcases h3 with h3 | h3
      · rw [h3]; rfl
      · rw [h3] at h1; cases h1
    | false =>
      rw [hc] at h1
      rcases h3 with h3 | h3
      · rw [h3] at h1; cases h1
      · rw [h3]; rfl
  | [], _ :: _, hs => hs.elim
  | _ :: _, [], hs => hs.elim
theorem ev_beq_eq (a b : Nat) : Nat.beq a b = (a == b) := by
  cases h : Nat.beq a b with
  | true => rw [Nat.eq_of_beq_eq_true h]; simp
  | false =>
    have hn : a ≠ b := fun e => by subst e; simp at h
    simp [hn]
theorem ev_lv_look : ∀ {L : List (Nat × ev_V)} {lv : List (Nat × Value)}, ev_lv al ex L lv → ∀ {i : Nat} {x : ev_V}, ev_look L i = some x → ∃ (k : Nat) (v : Value), lv[k]? = some (i, v) ∧ ev_rel al ex x v
  | [], _, _, i, x, hk => by simp [ev_look] at hk
  | (j, x0) :: L, (j', v) :: lv, hs, i, x, hk => by
    by_cases e : j = i
    · subst e
      simp [ev_look] at hk
      subst hk
      have e1 : j = j' := hs.1
      subst e1
      exact ⟨0, v, by simp, hs.2.1⟩
    · have e2 : Nat.beq j i = false := by
        cases hq : Nat.beq j i with
        | false => rfl
        | true => exact absurd (Nat.eq_of_beq_eq_true hq) e
      simp [ev_look, e2] at hk
      obtain ⟨k, v', h1, h2⟩ := ev_lv_look hs.2.2 hk
      exact ⟨k + 1, v', by simpa using h1, h2⟩
  | _ :: _, [], hs, _, _, _ => hs.elim
theorem ev_lv_del : ∀ {L : List (Nat × ev_V)} {lv : List (Nat × Value)}, ev_lv al ex L lv → ∀ (i : Nat), ev_lv al ex (ev_del L i) (lv.filter (fun q => !(q.1 == i) && !(q.1 + 1 == i && q.2.category == 2)))
  | [], [], _, i => by simp [ev_del, ev_lv]
  | (j, x0) :: L, (j', v) :: lv, hs, i => by
    have e1 : j = j' := hs.1
    subst e1
    have hc := ev_rel_cat hs.2.1
    have ih := ev_lv_del hs.2.2 i
    have hq : (Nat.beq j i || (Nat.beq (j + 1) i && !ev_c1 x0)) = !(!(j == i) && !(j + 1 == i && v.category == 2)) := by
      rw [hc, ev_beq_eq, ev_beq_eq]
      cases (j == i) <;> cases (j + 1 == i) <;> cases (ev_c1 x0) <;> rfl
    rw [List.filter_cons]
    show ev_lv al ex (bif (Nat.beq j i || (Nat.beq (j + 1) i && !ev_c1 x0)) then ev_del L i else (j, x0) :: ev_del L i) _
    rw [hq]
    cases hb : (!(j == i) && !(j + 1 == i && v.category == 2)) with
    | true => exact ⟨rfl, hs.2.1, ih⟩
    | false => exact ih
  | [], _ :: _, hs, _ => hs.elim
  | _ :: _, [], hs, _ => hs.elim
theorem ev_lv_del2 : ∀ {L : List (Nat × ev_V)} {lv : List (Nat × Value)}, ev_lv al ex L lv → ∀ (i : Nat), ev_lv al ex (ev_del2 L i) (lv.filter (fun q => !(q.1 == i) && (!(q.1 == i + 1) && !(q.1 + 1 == i && q.2.category == 2))))
  | [], [], _, i => by simp [ev_del2, ev_lv]
  | (j, x0) :: L, (j', v) :: lv, hs, i => by
    have e1 : j = j' := hs.1
    subst e1
    have hc := ev_rel_cat hs.2.1
    have ih := ev_lv_del2 hs.2.2 i
    have hq : (Nat.beq j i || (Nat.beq j (i + 1) || (Nat.beq (j + 1) i && !ev_c1 x0))) = !(!(j == i) && (!(j == i + 1) && !(j + 1 == i && v.category == 2))) := by
      rw [hc, ev_beq_eq, ev_beq_eq, ev_beq_eq]
      cases (j == i) <;> cases (j == i + 1) <;> cases (j + 1 == i) <;> cases (ev_c1 x0) <;> rfl
    rw [List.filter_cons]
    show ev_lv al ex (bif (Nat.beq j i || (Nat.beq j (i + 1) || (Nat.beq (j + 1) i && !ev_c1 x0))) then ev_del2 L i else (j, x0) :: ev_del2 L i) _
    rw [hq]
    cases hb : (!(j == i) && (!(j == i + 1) && !(j + 1 == i && v.category == 2))) with
    | true => exact ⟨rfl, hs.2.1, ih⟩
    | false => exact ih
  | [], _ :: _, hs, _ => hs.elim
  | _ :: _, [], hs, _ => hs.elim
theorem ev_rel_L {x : ev_V} {v : Value} (hx : ev_isL x = true) (h : ev_rel al ex x v) : ∃ n : Int64, v = .long n := by
  rcases x with (w | b)
  · cases w <;> first | (simp [ev_isL] at hx; done) | exact ⟨_, h⟩
  · cases b <;> simp [ev_isL] at hx
theorem ev_ix_some {N : Nat} {x : ev_V} {i : Nat} (h : ev_ix N x = some i) : ∃ z : Int32, x = .inl (.int z) ∧ vp_in z N ∧ z.toNatClampNeg = i ∧ i < N := by
  unfold ev_ix at h
  split at h
  · rename_i z hz
    by_cases h0 : z < 0
    · simp [h0] at h
    · simp only [h0, decide_false, cond_false] at h
      cases hb : Nat.ble N z.toNatClampNeg with
      | true => rw [hb] at h; cases h
      | false =>
        rw [hb] at h
        cases h
        have hl : ¬ N ≤ z.toNatClampNeg := fun q => by rw [Nat.ble_eq_true_of_le q] at hb; cases hb
        exact ⟨z, ev_int_some hz, fun q => q.elim h0 hl, rfl, Nat.not_le.mp hl⟩
  · cases h
theorem ev_w_get {w : List ev_C} {ws : va_W} (h : ev_w al ex tys w ws) {q : Nat} {x : ev_C} (hx : w[q]? = some x) {a : Nat} (ha : al[q]? = some a) : ∃ E, ws[q]? = some (a, E) ∧ ev_cell al ex tys x E := by
  obtain ⟨a', E, h1, h2, h3⟩ := h.2.2 q x hx
  cases h1.symm.trans ha
  exact ⟨E, h2, h3⟩
theorem ev_set_self {α : Type} {l : List α} {q : Nat} {a : α} (h : l[q]? = some a) : l.set q a = l := by
  apply List.ext_getElem?
  intro i
  by_cases e : q = i
  · subst e
    rw [List.getElem?_set_self (List.getElem?_eq_some_iff.mp h).1, h]
  · rw [List.getElem?_set_ne e]
theorem ev_w_set {w : List ev_C} {ws : va_W} (h : ev_w al ex tys w ws) {q a : Nat} (ha : al[q]? = some a) {x : ev_C} {E : va_E} (hc : ev_cell al ex tys x E) : ev_w al ex tys (w.set q x) (ws.set q (a, E)) := by
  refine ⟨?_, by simp [h.2.1], fun k y hy => ?_⟩
  · rw [List.map_set, h.1]
    exact ev_set_self ha
  · by_cases e : q = k
    · subst e
      have hl : q < w.length := by
        have := (List.getElem?_eq_some_iff.mp hy).1
        simpa using this
      rw [List.getElem?_set_self hl] at hy
      cases hy
      exact ⟨a, E, ha, by rw [List.getElem?_set_self (by rw [← h.2.1]; exact hl)], hc⟩
    · rw [List.getElem?_set_ne e] at hy
      obtain ⟨a', E', h1, h2, h3⟩ := h.2.2 k y hy
      exact ⟨a', E', h1, by rw [List.getElem?_set_ne e]; exact h2, h3⟩
theorem ev_w_push {w : List ev_C} {ws : va_W} (h : ev_w al ex tys w ws) (q : Nat) {x : ev_C} {E : va_E} (hc : ev_cell (al ++ [q]) ex tys x E) : ev_w (al ++ [q]) ex tys (w ++ [x]) (ws ++ [(q, E)]) := by
  have hl : al.length = w.length := by rw [← h.1, List.length_map, h.2.1]
  refine ⟨by simp [h.1], by simp [h.2.1], fun k y hy => ?_⟩
  by_cases e : k < w.length
  · rw [List.getElem?_append_left e] at hy
    obtain ⟨a', E', h1, h2, h3⟩ := h.2.2 k y hy
    exact ⟨a', E', by rw [List.getElem?_append_left (by omega)]; exact h1, by rw [List.getElem?_append_left (by rw [← h.2.1]; exact e)]; exact h2, ev_cell.mono (List.prefix_append _ _) h3⟩
  · have hz := (List.getElem?_eq_some_iff.mp hy).1
    simp at hz
    have ek : k = w.length := by omega
    subst ek
    simp at hy
    subst hy
    refine ⟨q, E, ?_, ?_, hc⟩
    · rw [← hl]; simp
    · rw [h.2.1]; simp
end EvPure
