/-! THE WORLD AS FUNCTIONS: values, heaps, frames whose parts are known by their kinds; a step gives the next frame and what it asks -/
/-- an int, a long, a reference (none: null; some q: the cell at place q; from 1000000 on an outer object; 3000000: one of which nothing is known) -/
abbrev mu_V : Type := Int32 ⊕ (Int64 ⊕ Option Nat)
/-- kinds of cells (an object: its class's number; an array: 100 and its type's number), lengths of arrays, ints, longs, references in them; how many places; how many cells and slots made -/
abbrev mu_H : Type := (Nat → Nat) × (Nat → Nat) × (Nat → Nat → Int32) × (Nat → Nat → Int64) × (Nat → Nat → Option Nat) × Nat × Nat × Nat
def mu_k (H : mu_H) (q : Nat) : Nat := H.1 q
def mu_n (H : mu_H) (q : Nat) : Nat := H.2.1 q
def mu_i (H : mu_H) (q j : Nat) : Int32 := H.2.2.1 q j
def mu_l (H : mu_H) (q j : Nat) : Int64 := H.2.2.2.1 q j
def mu_r (H : mu_H) (q j : Nat) : Option Nat := H.2.2.2.2.1 q j
def mu_z (H : mu_H) : Nat := H.2.2.2.2.2.1
def mu_c (H : mu_H) : Nat := H.2.2.2.2.2.2.1
def mu_s (H : mu_H) : Nat := H.2.2.2.2.2.2.2
def mu_si (H : mu_H) (q j : Nat) (x : Int32) : mu_H := (H.1, H.2.1, (fun p i => if p = q ∧ i = j then x else H.2.2.1 p i), H.2.2.2.1, H.2.2.2.2.1, H.2.2.2.2.2.1, H.2.2.2.2.2.2.1, H.2.2.2.2.2.2.2)
def mu_sl (H : mu_H) (q j : Nat) (x : Int64) : mu_H := (H.1, H.2.1, H.2.2.1, (fun p i => if p = q ∧ i = j then x else H.2.2.2.1 p i), H.2.2.2.2.1, H.2.2.2.2.2.1, H.2.2.2.2.2.2.1, H.2.2.2.2.2.2.2)
def mu_sr (H : mu_H) (q j : Nat) (x : Option Nat) : mu_H := (H.1, H.2.1, H.2.2.1, H.2.2.2.1, (fun p i => if p = q ∧ i = j then x else H.2.2.2.2.1 p i), H.2.2.2.2.2.1, H.2.2.2.2.2.2.1, H.2.2.2.2.2.2.2)
/-- a new cell: its kind, its length, its slots; all is 0 or null in it -/
def mu_nw (H : mu_H) (kd len sl : Nat) : mu_H := ((fun p => if p = H.2.2.2.2.2.1 then kd else H.1 p), (fun p => if p = H.2.2.2.2.2.1 then len else H.2.1 p), (fun p i => if p = H.2.2.2.2.2.1 then 0 else H.2.2.1 p i), (fun p i => if p = H.2.2.2.2.2.1 then 0 else H.2.2.2.1 p i), (fun p i => if p = H.2.2.2.2.2.1 then none else H.2.2.2.2.1 p i), H.2.2.2.2.2.1 + 1, H.2.2.2.2.2.2.1 + 1, H.2.2.2.2.2.2.2 + sl)
/-- an exception was made -/
def mu_ex (H : mu_H) : mu_H := (H.1, H.2.1, H.2.2.1, H.2.2.2.1, H.2.2.2.2.1, H.2.2.2.2.2.1, H.2.2.2.2.2.2.1 + 1, H.2.2.2.2.2.2.2 + 6)
section MuSimp
variable (H : mu_H) (q j p i : Nat) (x : Int32) (y : Int64) (o : Option Nat) (kd len sl : Nat)
theorem mu_k_si : mu_k (mu_si H q j x) p = mu_k H p := rfl
theorem mu_n_si : mu_n (mu_si H q j x) p = mu_n H p := rfl
theorem mu_i_si : mu_i (mu_si H q j x) p i = if p = q ∧ i = j then x else mu_i H p i := rfl
theorem mu_l_si : mu_l (mu_si H q j x) p i = mu_l H p i := rfl
theorem mu_r_si : mu_r (mu_si H q j x) p i = mu_r H p i := rfl
theorem mu_z_si : mu_z (mu_si H q j x) = mu_z H := rfl
theorem mu_c_si : mu_c (mu_si H q j x) = mu_c H := rfl
theorem mu_s_si : mu_s (mu_si H q j x) = mu_s H := rfl
theorem mu_k_sl : mu_k (mu_sl H q j y) p = mu_k H p := rfl
theorem mu_n_sl : mu_n (mu_sl H q j y) p = mu_n H p := rfl
theorem mu_i_sl : mu_i (mu_sl H q j y) p i = mu_i H p i := rfl
theorem mu_l_sl : mu_l (mu_sl H q j y) p i = if p = q ∧ i = j then y else mu_l H p i := rfl
theorem mu_r_sl : mu_r (mu_sl H q j y) p i = mu_r H p i := rfl
theorem mu_z_sl : mu_z (mu_sl H q j y) = mu_z H := rfl
theorem mu_c_sl : mu_c (mu_sl H q j y) = mu_c H := rfl
theorem mu_s_sl : mu_s (mu_sl H q j y) = mu_s H := rfl
theorem mu_k_sr : mu_k (mu_sr H q j o) p = mu_k H p := rfl
theorem mu_n_sr : mu_n (mu_sr H q j o) p = mu_n H p := rfl
theorem mu_i_sr : mu_i (mu_sr H q j o) p i = mu_i H p i := rfl
theorem mu_l_sr : mu_l (mu_sr H q j o) p i = mu_l H p i := rfl
theorem mu_r_sr : mu_r (mu_sr H q j o) p i = if p = q ∧ i = j then o else mu_r H p i := rfl
theorem mu_z_sr : mu_z (mu_sr H q j o) = mu_z H := rfl
theorem mu_c_sr : mu_c (mu_sr H q j o) = mu_c H := rfl
theorem mu_s_sr : mu_s (mu_sr H q j o) = mu_s H := rfl
theorem mu_k_nw : mu_k (mu_nw H kd len sl) p = if p = mu_z H then kd else mu_k H p := rfl
theorem mu_n_nw : mu_n (mu_nw H kd len sl) p = if p = mu_z H then len else mu_n H p := rfl
theorem mu_i_nw : mu_i (mu_nw H kd len sl) p i = if p = mu_z H then 0 else mu_i H p i := rfl
theorem mu_l_nw : mu_l (mu_nw H kd len sl) p i = if p = mu_z H then 0 else mu_l H p i := rfl
theorem mu_r_nw : mu_r (mu_nw H kd len sl) p i = if p = mu_z H then none else mu_r H p i := rfl
theorem mu_z_nw : mu_z (mu_nw H kd len sl) = mu_z H + 1 := rfl
theorem mu_c_nw : mu_c (mu_nw H kd len sl) = mu_c H + 1 := rfl
theorem mu_s_nw : mu_s (mu_nw H kd len sl) = mu_s H + sl := rfl
end MuSimp
/-- the value as the evaluator has it -/
def mu_v : mu_V → ev_V
  | .inl x => .inl (.int x)
  | .inr (.inl x) => .inl (.long x)
  | .inr (.inr none) => .inl .null
  | .inr (.inr (some k)) => bif Nat.ble 1000000 k then (bif Nat.beq k 3000000 then .inr none else .inl (.retAddr (k - 1000000))) else .inl (.ref k)
def mu_c1 : mu_V → Bool
  | .inr (.inl _) => false
  | _ => true
/-- a field or an element by its kind: 2 a reference, 3 a long, else an int -/
def mu_f (H : mu_H) (q j tc : Nat) : mu_V :=
  match tc with
  | 2 => .inr (.inr (mu_r H q j))
  | 3 => .inr (.inl (mu_l H q j))
  | _ => .inl (mu_i H q j)
/-- the kind of a field's type: 0 int, 1 boolean, 2 a reference, 3 a long, 4 byte -/
def mu_tc : FieldType → Nat
  | .int => 0
  | .boolean => 1
  | .long => 3
  | .byte => 4
  | .object _ => 2
  | .array _ => 2
  | _ => 5
def mu_fs (H : mu_H) (q : Nat) : Nat → List Nat → List ev_V
  | _, [] => []
  | j, tc :: t => mu_v (mu_f H q j tc) :: mu_fs H q (j + 1) t
/-- the kinds of the fields of a class of the list -/
def mu_ft (ci : Nat) : List Nat := (List.range ((ev_cl[ci]?.map fun q => q.2.2).getD 0)).map (fun j => mu_tc (ev_Y ci j))
/-- the kind of an array's elements, by its type's number -/
def mu_et : Nat → Nat
  | 0 => 0
  | 1 => 0
  | 2 => 3
  | 8 => 0
  | _ => 2
def mu_cell (H : mu_H) (q : Nat) (x : ev_C) : Prop :=
  match x with
  | .inl (ci, fs) => mu_k H q = ci ∧ ci < 100 ∧ fs = mu_fs H q 0 (mu_ft ci)
  | .inr (t, N, d, wr) => mu_k H q = 100 + t ∧ mu_n H q = N ∧ ∀ i, i < N → ev_at d wr i = mu_v (mu_f H q i (mu_et t))
/-- the outer arrays (the bytes of the texts, the ints of LEVEL) stand from 1001000 on -/
def mu_ot (H : mu_H) : Prop := ∀ j, j < ev_kb.length → mu_k H (1001000 + j) = 100 + ev_oty ev_kb (1000 + j) ∧ mu_n H (1001000 + j) = (ev_kb.getD j []).length ∧ ∀ i, mu_i H (1001000 + j) i = (ev_kb.getD j []).getD i 0
/-- the evaluator's world is what the functions say -/
def mu_rep (H : mu_H) (w : List ev_C) : Prop := w.length = mu_z H ∧ (mu_z H ≤ 1000000 ∧ mu_ot H) ∧ ∀ q x, w[q]? = some x → mu_cell H q x
abbrev mu_L : Type := List (Nat × mu_V)
def mu_m (L : mu_L) : List (Nat × ev_V) := L.map (fun q => (q.1, mu_v q.2))
def mu_look : mu_L → Nat → Option mu_V
  | [], _ => none
  | (i, v) :: t, k => bif Nat.beq i k then some v else mu_look t k
def mu_del : mu_L → Nat → mu_L
  | [], _ => []
  | (i, v) :: t, k => bif Nat.beq i k || (Nat.beq (i + 1) k && !mu_c1 v) then mu_del t k else (i, v) :: mu_del t k
def mu_del2 : mu_L → Nat → mu_L
  | [], _ => []
  | (i, v) :: t, k => bif Nat.beq i k || (Nat.beq i (k + 1) || (Nat.beq (i + 1) k && !mu_c1 v)) then mu_del2 t k else (i, v) :: mu_del2 t k
theorem mu_v_c1 (v : mu_V) : ev_c1 (mu_v v) = mu_c1 v := by
  rcases v with x | x | o
  · rfl
  · rfl
  · cases o with
    | none => rfl
    | some k =>
      show ev_c1 (bif Nat.ble 1000000 k then (bif Nat.beq k 3000000 then _ else _) else _) = true
      cases Nat.ble 1000000 k <;> cases Nat.beq k 3000000 <;> rfl
theorem mu_look_m : ∀ (L : mu_L) (k : Nat), ev_look (mu_m L) k = (mu_look L k).map mu_v
  | [], _ => rfl
  | (i, v) :: t, k => by
    have ih := mu_look_m t k
    show (bif Nat.beq i k then some (mu_v v) else ev_look (mu_m t) k) = ((bif Nat.beq i k then some v else mu_look t k).map mu_v)
    cases Nat.beq i k with
    | true => rfl
    | false => exact ih
theorem mu_del_m : ∀ (L : mu_L) (k : Nat), ev_del (mu_m L) k = mu_m (mu_del L k)
  | [], _ => rfl
  | (i, v) :: t, k => by
    have ih := mu_del_m t k
    show (bif Nat.beq i k || (Nat.beq (i + 1) k && !ev_c1 (mu_v v)) then ev_del (mu_m t) k else (i, mu_v v) :: ev_del (mu_m t) k) = mu_m (bif Nat.beq i k || (Nat.beq (i + 1) k && !mu_c1 v) then mu_del t k else (i, v) :: mu_del t k)
    rw [mu_v_c1, ih]
    cases (Nat.beq i k || (Nat.beq (i + 1) k && !mu_c1 v)) <;> rfl
theorem mu_del2_m : ∀ (L : mu_L) (k : Nat), ev_del2 (mu_m L) k = mu_m (mu_del2 L k)
  | [], _ => rfl
  | (i, v) :: t, k => by
    have ih := mu_del2_m t k
    show (bif Nat.beq i k || (Nat.beq i (k + 1) || (Nat.beq (i + 1) k && !ev_c1 (mu_v v))) then ev_del2 (mu_m t) k else (i, mu_v v) :: ev_del2 (mu_m t) k) = mu_m (bif Nat.beq i k || (Nat.beq i (k + 1) || (Nat.beq (i + 1) k && !mu_c1 v)) then mu_del2 t k else (i, v) :: mu_del2 t k)
    rw [mu_v_c1, ih]
    cases (Nat.beq i k || (Nat.beq i (k + 1) || (Nat.beq (i + 1) k && !mu_c1 v))) <;> rfl
theorem mu_v_ref {q : Nat} (h : q < 1000000) : mu_v (.inr (.inr (some q))) = .inl (.ref q) := by
  show (bif Nat.ble 1000000 q then _ else _) = _
  have : Nat.ble 1000000 q = false := by
    cases hb : Nat.ble 1000000 q with
    | false => rfl
    | true => exact absurd (Nat.le_of_ble_eq_true hb) (by omega)
  rw [this]
  rfl
theorem mu_v_isR (o : Option Nat) : ev_isR (mu_v (.inr (.inr o))) = true := by
  cases o with
  | none => rfl
  | some k =>
    show ev_isR (bif Nat.ble 1000000 k then (bif Nat.beq k 3000000 then _ else _) else _) = true
    cases Nat.ble 1000000 k <;> cases Nat.beq k 3000000 <;> rfl
theorem mu_fs_len (H : mu_H) (q : Nat) : ∀ (j : Nat) (ts : List Nat), (mu_fs H q j ts).length = ts.length
  | _, [] => rfl
  | j, _ :: t => by simp [mu_fs, mu_fs_len H q (j + 1) t]
theorem mu_fs_get (H : mu_H) (q : Nat) : ∀ (j k : Nat) (ts : List Nat) (tc : Nat), ts[k]? = some tc → (mu_fs H q j ts)[k]? = some (mu_v (mu_f H q (j + k) tc))
  | _, _, [], _, h => by simp at h
  | j, 0, t :: ts, tc, h => by
    simp at h
    subst h
    rfl
  | j, k + 1, t :: ts, tc, h => by
    have := mu_fs_get H q (j + 1) k ts tc (by simpa using h)
    simp only [mu_fs, List.getElem?_cons_succ]
    rw [this, show j + 1 + k = j + (k + 1) by omega]
theorem mu_fs_congr {H H' : mu_H} {q : Nat} : ∀ (j : Nat) (ts : List Nat), (∀ i tc, j ≤ i → mu_f H' q i tc = mu_f H q i tc) → mu_fs H' q j ts = mu_fs H q j ts
  | _, [], _ => rfl
  | j, t :: ts, h => by
    simp only [mu_fs]
    rw [h j t (Nat.le_refl _), mu_fs_congr (j + 1) ts (fun i tc hi => h i tc (by omega))]
theorem mu_fs_set {H H' : mu_H} {q k : Nat} {x : mu_V} : ∀ (j : Nat) (ts : List Nat) (tc : Nat), ts[k]? = some tc → mu_f H' q (j + k) tc = x → (∀ i tc', i ≠ j + k → mu_f H' q i tc' = mu_f H q i tc') → (mu_fs H q j ts).set k (mu_v x) = mu_fs H' q j ts := by
  induction k with
  | zero =>
    intro j ts tc h1 h2 h3
    cases ts with
    | nil => simp at h1
    | cons t ts =>
      simp at h1
      subst h1
      simp only [mu_fs, List.set_cons_zero]
      rw [show j + 0 = j from rfl] at h2 h3
      rw [h2, mu_fs_congr (j + 1) ts (fun i tc hi => h3 i tc (by omega))]
  | succ k ih =>
    intro j ts tc h1 h2 h3
    cases ts with
    | nil => simp at h1
    | cons t ts =>
      simp only [mu_fs, List.set_cons_succ]
      rw [h3 j t (by omega), ih (j + 1) ts tc (by simpa using h1) (by rw [show j + 1 + k = j + (k + 1) by omega]; exact h2) (fun i tc' hi => h3 i tc' (by omega))]
