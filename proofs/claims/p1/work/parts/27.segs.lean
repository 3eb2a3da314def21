/-! One step at a time; calls whose answers are known beforehand; equality as a check -/
/-- one step: the next frame, or the answer -/
noncomputable def ev_one (run : Nat → List ev_V → List ev_C → Option ev_R) (sc : List ev_V) (nL : Nat) (hh : List (Nat × Nat × Nat × Nat)) (code : List ev_I) (f : ev_F) : Option (ev_F ⊕ ev_R) :=
  ev_body (fun r => some (.inr r)) run ev_fds ev_jk ev_kb sc nL hh code (fun f => some (.inl f)) f
def ev_then {α : Type} (fin : ev_R → Option α) (go : ev_F → Option α) : Option (ev_F ⊕ ev_R) → Option α
  | some (.inl f) => go f
  | some (.inr r) => fin r
  | none => none
set_option maxHeartbeats 4000000 in
theorem ev_body_one {α : Type} {fin : ev_R → Option α} {run : Nat → List ev_V → List ev_C → Option ev_R} {sc : List ev_V} {nL : Nat} {hh : List (Nat × Nat × Nat × Nat)} {code : List ev_I} {go : ev_F → Option α} {f : ev_F} :
    ev_body fin run ev_fds ev_jk ev_kb sc nL hh code go f = ev_then fin go (ev_one run sc nL hh code f) := by
  obtain ⟨pc, L, S, w, c, n⟩ := f
  unfold ev_one ev_body
  simp only [Bool.cond_eq_ite]
  repeat' split
  all_goals first | rfl | simp_all [ev_then]
/-- n steps -/
noncomputable def ev_adv (run : Nat → List ev_V → List ev_C → Option ev_R) (sc : List ev_V) (nL : Nat) (hh : List (Nat × Nat × Nat × Nat)) (code : List ev_I) (n : Nat) : ev_F → Option ev_F :=
  Nat.rec (fun f => some f) (fun _ go f => ev_body (fun _ => none) run ev_fds ev_jk ev_kb sc nL hh code go f) n
theorem ev_adv_loop {ret : Option FieldType} {run : Nat → List ev_V → List ev_C → Option ev_R} {sc : List ev_V} {nL : Nat} {hh : List (Nat × Nat × Nat × Nat)} {code : List ev_I} {f' : ev_F} {r : ev_R} {m : Nat} (hm : ev_loop ret run ev_fds ev_jk ev_kb sc nL hh code m f' = some r) :
    ∀ (n : Nat) (f : ev_F), ev_adv run sc nL hh code n f = some f' → ev_loop ret run ev_fds ev_jk ev_kb sc nL hh code (n + m) f = some r
  | 0, f, h => by
    have h : some f = some f' := h
    cases h
    rw [Nat.zero_add]
    exact hm
  | n + 1, f, h => by
    have h : ev_body (fun _ => none) run ev_fds ev_jk ev_kb sc nL hh code (ev_adv run sc nL hh code n) f = some f' := h
    rw [ev_body_one] at h
    rw [show n + 1 + m = (n + m) + 1 by omega]
    show ev_body (fun r => bif ev_rok ret hh r then some r else none) run ev_fds ev_jk ev_kb sc nL hh code (ev_loop ret run ev_fds ev_jk ev_kb sc nL hh code (n + m)) f = some r
    rw [ev_body_one]
    cases ho : ev_one run sc nL hh code f with
    | none => rw [ho] at h; cases h
    | some q =>
      rw [ho] at h
      cases q with
      | inl f1 => exact ev_adv_loop hm n f1 h
      | inr r1 => cases h
/-- equal, as a check -/
def ev_eqV : ev_V → ev_V → Bool
  | .inl (.int x), .inl (.int y) => decide (x = y)
  | .inl (.long x), .inl (.long y) => decide (x = y)
  | .inl .null, .inl .null => true
  | .inl (.ref a), .inl (.ref b) => Nat.beq a b
  | .inl (.retAddr a), .inl (.retAddr b) => Nat.beq a b
  | .inr none, .inr none => true
  | .inr (some (a, b)), .inr (some (c, d)) => decide (a = c) && decide (b = d)
  | _, _ => false
theorem ev_eqV_ok {x y : ev_V} (h : ev_eqV x y = true) : x = y := by
  unfold ev_eqV at h
  split at h
  · rw [decide_eq_true_eq] at h; rw [h]
  · rw [decide_eq_true_eq] at h; rw [h]
  · rfl
  · rw [Nat.eq_of_beq_eq_true h]
  · rw [Nat.eq_of_beq_eq_true h]
  · rfl
  · simp only [Bool.and_eq_true, decide_eq_true_eq] at h; rw [h.1, h.2]
  · cases h
def ev_eqL {α : Type} (f : α → α → Bool) : List α → List α → Bool
  | [], [] => true
  | x :: s, y :: t => f x y && ev_eqL f s t
  | _, _ => false
theorem ev_eqL_ok {α : Type} {f : α → α → Bool} (hf : ∀ x y, f x y = true → x = y) : ∀ {s t : List α}, ev_eqL f s t = true → s = t
  | [], [], _ => rfl
  | x :: s, y :: t, h => by
    simp only [ev_eqL, Bool.and_eq_true] at h
    rw [hf x y h.1, ev_eqL_ok hf h.2]
  | [], _ :: _, h => by cases h
  | _ :: _, [], h => by cases h
def ev_eqN (a b : Nat × ev_V) : Bool := Nat.beq a.1 b.1 && ev_eqV a.2 b.2
theorem ev_eqN_ok (a b : Nat × ev_V) (h : ev_eqN a b = true) : a = b := by
  simp only [ev_eqN, Bool.and_eq_true] at h
  exact Prod.ext (Nat.eq_of_beq_eq_true h.1) (ev_eqV_ok h.2)
def ev_eqC (a b : ev_C) : Bool :=
  match a, b with
  | .inl (c, fs), .inl (c', fs') => Nat.beq c c' && ev_eqL ev_eqV fs fs'
  | .inr (t, n, d, wr), .inr (t', n', d', wr') => Nat.beq t t' && Nat.beq n n' && ev_eqV d d' && ev_eqL ev_eqN wr wr'
  | _, _ => false
theorem ev_eqC_ok (a b : ev_C) (h : ev_eqC a b = true) : a = b := by
  unfold ev_eqC at h
  split at h
  · simp only [Bool.and_eq_true] at h
    rw [Nat.eq_of_beq_eq_true h.1, ev_eqL_ok (fun _ _ => ev_eqV_ok) h.2]
  · simp only [Bool.and_eq_true] at h
    rw [Nat.eq_of_beq_eq_true h.1.1.1, Nat.eq_of_beq_eq_true h.1.1.2, ev_eqV_ok h.1.2, ev_eqL_ok ev_eqN_ok h.2]
  · cases h
def ev_eqF (a : Option ev_F) (b : ev_F) : Bool :=
  match a with
  | some a => Nat.beq a.1 b.1 && ev_eqL ev_eqN a.2.1 b.2.1 && ev_eqL ev_eqV a.2.2.1 b.2.2.1 && ev_eqL ev_eqC a.2.2.2.1 b.2.2.2.1 && Nat.beq a.2.2.2.2.1 b.2.2.2.2.1 && Nat.beq a.2.2.2.2.2 b.2.2.2.2.2
  | none => false
theorem ev_eqF_ok {a : Option ev_F} {b : ev_F} (h : ev_eqF a b = true) : a = some b := by
  unfold ev_eqF at h
  split at h
  · simp only [Bool.and_eq_true] at h
    obtain ⟨⟨⟨⟨⟨h1, h2⟩, h3⟩, h4⟩, h5⟩, h6⟩ := h
    congr 1
    exact Prod.ext (Nat.eq_of_beq_eq_true h1) (Prod.ext (ev_eqL_ok ev_eqN_ok h2) (Prod.ext (ev_eqL_ok (fun _ _ => ev_eqV_ok) h3) (Prod.ext (ev_eqL_ok ev_eqC_ok h4) (Prod.ext (Nat.eq_of_beq_eq_true h5) (Nat.eq_of_beq_eq_true h6)))))
  · cases h
/-- the answer of a constructor or of a method without an answer -/
def ev_eqR (a : Option ev_R) (w : List ev_C) (k n : Nat) : Bool :=
  match a with
  | some (.inl none, w', k', n') => ev_eqL ev_eqC w' w && Nat.beq k' k && Nat.beq n' n
  | _ => false
theorem ev_eqR_ok {a : Option ev_R} {w : List ev_C} {k n : Nat} (h : ev_eqR a w k n = true) : a = some (.inl none, w, k, n) := by
  unfold ev_eqR at h
  split at h
  · simp only [Bool.and_eq_true] at h
    rw [ev_eqL_ok ev_eqC_ok h.1.1, Nat.eq_of_beq_eq_true h.1.2, Nat.eq_of_beq_eq_true h.2]
  · cases h
/-- a call whose answer is known beforehand -/
def ev_memo (J : Nat) (as0 : List ev_V) (w0 w1 : List ev_C) (k n : Nat) (run : Nat → List ev_V → List ev_C → Option ev_R) : Nat → List ev_V → List ev_C → Option ev_R := fun mj as w =>
  bif Nat.beq mj J && ev_eqL ev_eqV as as0 && ev_eqL ev_eqC w w0 then some (.inl none, w1, k, n) else run mj as w
theorem ev_memo_ok {l : Launch} {D : va_G} {tys : List (ClassId × FieldType)} {ex : Nat → Nat} {d J : Nat} {as0 : List ev_V} {w0 w1 : List ev_C} {k n : Nat} {run : Nat → List ev_V → List ev_C → Option ev_R} (h0 : ev_Cok l D tys ex d J as0 w0 (.inl none, w1, k, n)) (hr : ∀ mj as w res, run mj as w = some res → ev_Cok l D tys ex d mj as w res)
    (mj : Nat) (as : List ev_V) (w : List ev_C) (res : ev_R) (h : ev_memo J as0 w0 w1 k n run mj as w = some res) : ev_Cok l D tys ex d mj as w res := by
  unfold ev_memo at h
  cases hb : (Nat.beq mj J && ev_eqL ev_eqV as as0 && ev_eqL ev_eqC w w0) with
  | true =>
    rw [hb] at h
    have h : some ((.inl none, w1, k, n) : ev_R) = some res := h
    cases h
    simp only [Bool.and_eq_true] at hb
    rw [Nat.eq_of_beq_eq_true hb.1.1, ev_eqL_ok (fun _ _ => ev_eqV_ok) hb.1.2, ev_eqL_ok ev_eqC_ok hb.2]
    exact h0
  | false =>
    rw [hb] at h
    exact hr mj as w res h
/-- a method's run, out of its loop -/
theorem ev_up_of {run : Nat → List ev_V → List ev_C → Option ev_R} {mi : Nat} {as : List ev_V} {w : List ev_C} {res : ev_R} {nL : Nat} {ret : Option FieldType} {hh : List (Nat × Nat × Nat × Nat)} {code : List ev_I} (hM : ev_ms mi = some (nL, ret, hh, code)) (hc : Nat.ble (ev_wds as) nL = true) (h : ev_loop ret run ev_fds ev_jk ev_kb [] nL hh code 20000 (0, ev_ent 0 as, [], w, 0, 0) = some res) : ev_up run mi as w = some res := by
  unfold ev_up
  rw [hM]
  show (bif Nat.ble (ev_wds as) nL then _ else none) = some res
  rw [hc]
  exact h
