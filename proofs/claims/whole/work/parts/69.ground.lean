/-! THE GROUND: the objects of the class stand at their places, each Rows has its width, each array of ints one owner -/
/-- Rows: place, width -/
def gi_ws : List (Nat × Nat) := [(3, 2), (5, 11), (7, 1), (9, 6), (11, 2), (13, 2), (15, 3), (17, 4), (19, 3), (21, 4), (23, 1), (25, 4), (27, 1), (29, 6), (31, 1), (33, 4), (35, 4), (37, 3), (39, 2), (42, 2), (44, 11), (46, 1), (48, 6), (50, 2), (52, 2), (54, 3), (56, 4), (58, 3), (60, 4), (62, 1), (64, 4), (66, 1), (68, 6), (70, 1), (72, 4), (74, 4), (76, 3), (78, 2), (82, 3), (86, 4), (89, 2), (93, 5), (96, 2), (101, 4), (103, 4), (118, 5), (130, 6), (132, 5), (159, 2), (167, 5)]
def gi_w (r : Nat) : Option Nat := gi_ws.lookup r
/-- objects: place, class -/
def gi_ks : List (Nat × Nat) := [(0, 0), (2, 6), (3, 10), (5, 10), (7, 10), (9, 10), (11, 10), (13, 10), (15, 10), (17, 10), (19, 10), (21, 10), (23, 10), (25, 10), (27, 10), (29, 10), (31, 10), (33, 10), (35, 10), (37, 10), (39, 10), (41, 6), (42, 10), (44, 10), (46, 10), (48, 10), (50, 10), (52, 10), (54, 10), (56, 10), (58, 10), (60, 10), (62, 10), (64, 10), (66, 10), (68, 10), (70, 10), (72, 10), (74, 10), (76, 10), (78, 10), (80, 7), (81, 4), (82, 10), (86, 10), (89, 10), (91, 3), (92, 12), (93, 10), (96, 10), (99, 13), (100, 5), (101, 10), (103, 10), (113, 11), (118, 10), (129, 9), (130, 10), (132, 10), (147, 2), (158, 8), (159, 10), (167, 10)]
def gi_k (p : Nat) : Option Nat := gi_ks.lookup p
/-- final references: object, field, what it holds -/
def gi_rs : List (Nat × Nat × Nat) := [(0, 6, 80), (0, 7, 91), (0, 8, 99), (0, 9, 129), (0, 10, 147), (0, 11, 158), (2, 0, 3), (2, 1, 5), (2, 2, 7), (2, 3, 9), (2, 4, 11), (2, 5, 13), (2, 6, 15), (2, 7, 17), (2, 8, 19), (2, 9, 21), (2, 10, 23), (2, 11, 25), (2, 12, 27), (2, 13, 29), (2, 14, 31), (2, 15, 33), (2, 16, 35), (2, 17, 37), (2, 18, 39), (41, 0, 42), (41, 1, 44), (41, 2, 46), (41, 3, 48), (41, 4, 50), (41, 5, 52), (41, 6, 54), (41, 7, 56), (41, 8, 58), (41, 9, 60), (41, 10, 62), (41, 11, 64), (41, 12, 66), (41, 13, 68), (41, 14, 70), (41, 15, 72), (41, 16, 74), (41, 17, 76), (41, 18, 78), (80, 0, 81), (80, 1, 89), (81, 5, 82), (81, 6, 84), (81, 9, 86), (81, 10, 88), (91, 0, 92), (91, 1, 96), (92, 0, 93), (92, 1, 95), (99, 1, 100), (99, 2, 113), (99, 3, 118), (99, 5, 120), (99, 6, 121), (99, 7, 122), (99, 14, 124), (99, 15, 125), (99, 16, 126), (99, 17, 127), (100, 1, 101), (100, 2, 103), (100, 9, 107), (100, 10, 108), (100, 11, 109), (113, 0, 114), (113, 4, 116), (113, 6, 117), (129, 0, 99), (129, 1, 130), (129, 2, 118), (129, 3, 132), (129, 13, 141), (129, 14, 142), (129, 15, 143), (129, 16, 144), (129, 17, 145), (129, 18, 146), (147, 0, 99), (147, 1, 129), (147, 2, 148), (147, 3, 149), (147, 4, 150), (147, 5, 151), (147, 6, 152), (147, 7, 153), (158, 0, 99), (158, 1, 147), (158, 2, 159), (158, 3, 161), (158, 5, 162), (158, 6, 163), (158, 7, 164), (158, 8, 165), (158, 9, 166), (129, 23, 167)]
def gi_r (p j : Nat) : Option Nat := (gi_rs.find? (fun t => Nat.beq t.1 p && Nat.beq t.2.1 j)).map (fun t => t.2.2)
/-- fields that hold arrays of ints: each such array has one owner -/
def gi_os : List (Nat × Nat) := [(3, 1), (5, 1), (7, 1), (9, 1), (11, 1), (13, 1), (15, 1), (17, 1), (19, 1), (21, 1), (23, 1), (25, 1), (27, 1), (29, 1), (31, 1), (33, 1), (35, 1), (37, 1), (39, 1), (42, 1), (44, 1), (46, 1), (48, 1), (50, 1), (52, 1), (54, 1), (56, 1), (58, 1), (60, 1), (62, 1), (64, 1), (66, 1), (68, 1), (70, 1), (72, 1), (74, 1), (76, 1), (78, 1), (81, 10), (82, 1), (86, 1), (89, 1), (91, 2), (92, 1), (93, 1), (96, 1), (99, 5), (99, 6), (99, 7), (99, 8), (99, 18), (100, 3), (100, 8), (100, 9), (100, 10), (100, 11), (100, 12), (100, 13), (100, 15), (101, 1), (103, 1), (113, 3), (113, 4), (118, 1), (129, 4), (129, 6), (129, 7), (129, 8), (129, 9), (129, 10), (129, 12), (129, 13), (129, 14), (129, 15), (129, 16), (130, 1), (132, 1), (147, 10), (147, 11), (147, 12), (147, 13), (158, 7), (158, 8), (158, 9), (159, 1), (167, 1)]
def gi_o (p j : Nat) : Bool := gi_os.any (fun t => Nat.beq t.1 p && Nat.beq t.2 j)
/-- fields that hold references -/
def gi_fs : List (Nat × Nat) := [(0, 0), (0, 4), (0, 5), (0, 6), (0, 7), (0, 8), (0, 9), (0, 10), (0, 11), (2, 0), (2, 1), (2, 2), (2, 3), (2, 4), (2, 5), (2, 6), (2, 7), (2, 8), (2, 9), (2, 10), (2, 11), (2, 12), (2, 13), (2, 14), (2, 15), (2, 16), (2, 17), (2, 18), (3, 1), (5, 1), (7, 1), (9, 1), (11, 1), (13, 1), (15, 1), (17, 1), (19, 1), (21, 1), (23, 1), (25, 1), (27, 1), (29, 1), (31, 1), (33, 1), (35, 1), (37, 1), (39, 1), (41, 0), (41, 1), (41, 2), (41, 3), (41, 4), (41, 5), (41, 6), (41, 7), (41, 8), (41, 9), (41, 10), (41, 11), (41, 12), (41, 13), (41, 14), (41, 15), (41, 16), (41, 17), (41, 18), (42, 1), (44, 1), (46, 1), (48, 1), (50, 1), (52, 1), (54, 1), (56, 1), (58, 1), (60, 1), (62, 1), (64, 1), (66, 1), (68, 1), (70, 1), (72, 1), (74, 1), (76, 1), (78, 1), (80, 0), (80, 1), (80, 2), (81, 0), (81, 5), (81, 6), (81, 7), (81, 9), (81, 10), (82, 1), (86, 1), (89, 1), (91, 0), (91, 1), (91, 2), (91, 3), (92, 0), (92, 1), (92, 2), (93, 1), (96, 1), (99, 0), (99, 1), (99, 2), (99, 3), (99, 5), (99, 6), (99, 7), (99, 8), (99, 14), (99, 15), (99, 16), (99, 17), (99, 18), (100, 0), (100, 1), (100, 2), (100, 3), (100, 8), (100, 9), (100, 10), (100, 11), (100, 12), (100, 13), (100, 15), (101, 1), (103, 1), (113, 0), (113, 3), (113, 4), (113, 6), (118, 1), (129, 0), (129, 1), (129, 2), (129, 3), (129, 4), (129, 6), (129, 7), (129, 8), (129, 9), (129, 10), (129, 12), (129, 13), (129, 14), (129, 15), (129, 16), (129, 17), (129, 18), (130, 1), (132, 1), (147, 0), (147, 1), (147, 2), (147, 3), (147, 4), (147, 5), (147, 6), (147, 7), (147, 8), (147, 10), (147, 11), (147, 12), (147, 13), (158, 0), (158, 1), (158, 2), (158, 3), (158, 5), (158, 6), (158, 7), (158, 8), (158, 9), (158, 22), (159, 1), (129, 23), (167, 1)]
def gi_f (p j : Nat) : Bool := Nat.beq p 114 || (Nat.beq p 161 || (Nat.beq p 163 || gi_fs.any (fun t => Nat.beq t.1 p && Nat.beq t.2 j)))
/-- final arrays: place, kind, length -/
def gi_as : List (Nat × Nat × Nat) := [(84, 101, 135), (88, 100, 256), (95, 100, 512), (107, 100, 1024), (108, 100, 1024), (109, 100, 1024), (114, 104, 184), (116, 100, 4096), (117, 102, 257), (120, 100, 14), (121, 100, 14), (122, 100, 14), (124, 102, 256), (125, 102, 256), (126, 102, 256), (127, 102, 256), (141, 100, 14), (142, 100, 28), (143, 100, 14), (144, 100, 14), (145, 102, 256), (146, 102, 256), (148, 102, 256), (149, 102, 256), (150, 102, 256), (151, 102, 256), (152, 102, 256), (153, 102, 256), (161, 104, 248), (162, 102, 256), (163, 104, 64), (164, 100, 64), (165, 100, 2001), (166, 100, 2000)]
def gi_a (p : Nat) : Option (Nat × Nat) := gi_as.lookup p
theorem gi_look {β : Type} : ∀ {l : List (Nat × β)} {r : Nat} {W : β}, l.lookup r = some W → (r, W) ∈ l
  | [], r, W, h => by cases h
  | (a, b) :: t, r, W, h => by
    rw [List.lookup_cons] at h
    cases hb : (r == a) with
    | true =>
      rw [hb] at h
      cases h
      rw [eq_of_beq hb]
      exact List.mem_cons_self
    | false =>
      rw [hb] at h
      exact List.mem_cons_of_mem _ (gi_look h)
theorem gi_two {l : List (Nat × Nat)} {p j : Nat} (h : l.any (fun t => Nat.beq t.1 p && Nat.beq t.2 j) = true) : (p, j) ∈ l := by
  obtain ⟨t, ht, hb⟩ := List.any_eq_true.mp h
  rw [Bool.and_eq_true] at hb
  obtain ⟨a, b⟩ := t
  have e1 : a = p := Nat.eq_of_beq_eq_true hb.1
  have e2 : b = j := Nat.eq_of_beq_eq_true hb.2
  rw [← e1, ← e2]
  exact ht
theorem gi_w_ok {r W : Nat} (h : gi_w r = some W) : r < 169 ∧ 0 < W ∧ W ≤ 11 ∧ gi_k r = some 10 ∧ gi_o r 1 = true :=
  (show ∀ t ∈ gi_ws, t.1 < 169 ∧ 0 < t.2 ∧ t.2 ≤ 11 ∧ gi_k t.1 = some 10 ∧ gi_o t.1 1 = true by decide +kernel) _ (gi_look h)
theorem gi_k_ok {p k : Nat} (h : gi_k p = some k) : p < 169 ∧ k < 100 :=
  (show ∀ t ∈ gi_ks, t.1 < 169 ∧ t.2 < 100 by decide +kernel) _ (gi_look h)
theorem gi_o_ok {p j : Nat} (h : gi_o p j = true) : gi_f p j = true ∧ (∃ k, gi_k p = some k) ∧ (∀ W, gi_w p = some W → j = 1) := by
  have h1 := (show ∀ t ∈ gi_os, gi_f t.1 t.2 = true ∧ (gi_k t.1).isSome = true ∧ ((gi_w t.1).isSome = true → t.2 = 1) by decide +kernel) _ (gi_two h)
  refine ⟨h1.1, Option.isSome_iff_exists.mp h1.2.1, fun W hW => h1.2.2 ?_⟩
  show (gi_w p).isSome = true
  rw [hW]; rfl
theorem gi_f_rows {r W j : Nat} (h : gi_w r = some W) (hj : gi_f r j = true) : j = 1 := by
  have h1 := (show ∀ t ∈ gi_ws, t.1 ≠ 114 ∧ t.1 ≠ 161 ∧ t.1 ≠ 163 ∧ ∀ u ∈ gi_fs, u.1 = t.1 → u.2 = 1 by decide +kernel) _ (gi_look h)
  unfold gi_f at hj
  rw [Bool.or_eq_true, Bool.or_eq_true, Bool.or_eq_true] at hj
  rcases hj with e | e | e | e
  · exact absurd (Nat.eq_of_beq_eq_true e) h1.1
  · exact absurd (Nat.eq_of_beq_eq_true e) h1.2.1
  · exact absurd (Nat.eq_of_beq_eq_true e) h1.2.2.1
  · exact h1.2.2.2 _ (gi_two e) rfl
theorem gi_r_mem {p j q : Nat} (h : gi_r p j = some q) : (p, j, q) ∈ gi_rs := by
  unfold gi_r at h
  cases hf : gi_rs.find? (fun t => Nat.beq t.1 p && Nat.beq t.2.1 j) with
  | none => rw [hf] at h; cases h
  | some t =>
    rw [hf] at h
    cases h
    have hm := List.mem_of_find?_eq_some hf
    have hb := List.find?_some hf
    rw [Bool.and_eq_true] at hb
    obtain ⟨a, b, c⟩ := t
    have e1 : a = p := Nat.eq_of_beq_eq_true hb.1
    have e2 : b = j := Nat.eq_of_beq_eq_true hb.2
    rw [← e1, ← e2]
    exact hm
theorem gi_r_ok {p j q : Nat} (h : gi_r p j = some q) : (∃ k, gi_k p = some k) ∧ gi_w p = none := by
  have h1 := (show ∀ t ∈ gi_rs, (gi_k t.1).isSome = true ∧ gi_w t.1 = none by decide +kernel) _ (gi_r_mem h)
  exact ⟨Option.isSome_iff_exists.mp h1.1, h1.2⟩
theorem gi_a_ok {p : Nat} {x : Nat × Nat} (h : gi_a p = some x) : p < 201 ∧ 100 ≤ x.1 := (show ∀ t ∈ gi_as, t.1 < 201 ∧ 100 ≤ t.2.1 by decide +kernel) _ (gi_look h)
/-- how many rows; the length of the array -/
def gi_sz (H : mu_H) (r : Nat) : Nat := (mu_i H r 2).toNatClampNeg
def gi_cap (H : mu_H) (r : Nat) : Nat := mu_n H (mu_p (mu_r H r 1))
/-- the fields whose arrays may be made anew -/
def gi_al : List (Nat × Nat) := (0, 0) :: (81, 7) :: gi_os
def gi_len (H : mu_H) (t : Nat × Nat) : Nat := mu_n H (mu_p (mu_r H t.1 t.2))
def gi_SC (H : mu_H) : Nat := (gi_al.map (gi_len H)).sum
def gi_SL (H : mu_H) : Nat := (gi_al.map (fun t => Nat.log2 (gi_len H t))).sum
/-- arrays of bytes, and lengths -/
def gx (H : mu_H) : Prop :=
  (mu_is H (mu_r H 0 0) 101 ∧ mu_is H (mu_r H 81 7) 101 ∧ mu_r H 0 0 ≠ mu_r H 81 7 ∧ mu_r H 81 7 ≠ some 84 ∧ mu_r H 0 0 ≠ some 84) ∧
  (∀ t ∈ gi_al, 1 ≤ gi_len H t ∧ gi_len H t ≤ 16777216) ∧
  (∀ p i, p < mu_z H → mu_k H p = 101 → i < mu_n H p → fits .byte (.int (mu_i H p i)) = true)
/-- the ground -/
def gi (H : mu_H) : Prop :=
  (201 ≤ mu_z H ∧ mu_z H ≤ 900000 + gi_SL H) ∧
  (∀ p k, gi_k p = some k → mu_k H p = k) ∧
  (∀ p j q, gi_r p j = some q → mu_r H p j = some q) ∧
  (∀ r W, gi_w r = some W → rw_ok H r W (gi_sz H r) (gi_cap H r) ∧ 1 ≤ gi_cap H r ∧ gi_cap H r ≤ 16777216) ∧
  (∀ p j, gi_o p j = true → mu_is H (mu_r H p j) 100) ∧
  (∀ p j p' j', gi_o p j = true → gi_o p' j' = true → mu_r H p j = mu_r H p' j' → p = p' ∧ j = j') ∧
  (∀ p x, gi_a p = some x → mu_k H p = x.1 ∧ mu_n H p = x.2) ∧ gx H
section Ground
variable {H H1 H2 : mu_H}
theorem gi.is (h : gi H) {p k : Nat} (hp : gi_k p = some k) : mu_is H (some p) k := ⟨rfl, by have h1 := (gi_k_ok hp).1; have h2 := h.1.1; show p < mu_z H; omega, h.2.1 p k hp⟩
theorem gi.r (h : gi H) {p j q : Nat} (hp : gi_r p j = some q) : mu_r H p j = some q := h.2.2.1 p j q hp
theorem gi.w (h : gi H) {r W : Nat} (hr : gi_w r = some W) : rw_ok H r W (gi_sz H r) (gi_cap H r) := (h.2.2.2.1 r W hr).1
theorem gi.o (h : gi H) {p j : Nat} (hp : gi_o p j = true) : mu_is H (mu_r H p j) 100 := h.2.2.2.2.1 p j hp
theorem gi.a (h : gi H) {p : Nat} {x : Nat × Nat} (hp : gi_a p = some x) : mu_is H (some p) x.1 ∧ mu_n H p = x.2 := ⟨⟨rfl, by have h1 := (gi_a_ok hp).1; have h2 := h.1.1; show p < mu_z H; omega, (h.2.2.2.2.2.2.1 p x hp).1⟩, (h.2.2.2.2.2.2.1 p x hp).2⟩
theorem gi_sum_le {f : Nat × Nat → Nat} {B : Nat} : ∀ (l : List (Nat × Nat)), (∀ t ∈ l, f t ≤ B) → (l.map f).sum ≤ l.length * B
  | [], _ => Nat.zero_le _
  | a :: t, h => by
    have h1 := h a List.mem_cons_self
    have h2 := gi_sum_le t (fun u hu => h u (List.mem_cons_of_mem _ hu))
    rw [List.map_cons, List.sum_cons, List.length_cons, Nat.add_mul]
    omega
theorem gi_sum_eq {f g : Nat × Nat → Nat} : ∀ (l : List (Nat × Nat)), (∀ t ∈ l, g t = f t) → (l.map g).sum = (l.map f).sum
  | [], _ => rfl
  | a :: t, h => by
    rw [List.map_cons, List.sum_cons, List.map_cons, List.sum_cons, h a List.mem_cons_self, gi_sum_eq t (fun u hu => h u (List.mem_cons_of_mem _ hu))]
theorem gi_sum_one {f g : Nat × Nat → Nat} {r : Nat × Nat} : ∀ (l : List (Nat × Nat)), l.Nodup → r ∈ l → (∀ t ∈ l, t ≠ r → g t = f t) → (l.map g).sum + f r = (l.map f).sum + g r
  | [], _, h, _ => by cases h
  | a :: t, hd, hm, h => by
    rw [List.nodup_cons] at hd
    rw [List.map_cons, List.sum_cons, List.map_cons, List.sum_cons]
    by_cases e : a = r
    · have h2 : (t.map g).sum = (t.map f).sum := gi_sum_eq t (fun u hu => h u (List.mem_cons_of_mem _ hu) (fun e2 => hd.1 (by rw [e, ← e2]; exact hu)))
      rw [h2, e]
      omega
    · have hm2 : r ∈ t := by
        rcases List.mem_cons.mp hm with e2 | e2
        · exact absurd e2.symm e
        · exact e2
      have ih := gi_sum_one t hd.2 hm2 (fun u hu => h u (List.mem_cons_of_mem _ hu))
      rw [h a List.mem_cons_self e]
      omega
theorem gi_al_nodup : gi_al.Nodup := by decide +kernel
theorem gi_SL_le (h : ∀ t ∈ gi_al, 1 ≤ gi_len H t ∧ gi_len H t ≤ 16777216) : gi_SL H ≤ 2112 := by
  have h1 : gi_SL H ≤ gi_al.length * 24 := gi_sum_le (f := fun t => Nat.log2 (gi_len H t)) gi_al (fun t ht => by
    have h2 := h t ht
    have h3 : Nat.log2 (gi_len H t) < 25 := (Nat.log2_lt (by omega)).mpr (by omega)
    show Nat.log2 (gi_len H t) ≤ 24
    omega)
  have h2 : gi_al.length = 88 := rfl
  omega
theorem gi.z (h : gi H) : mu_z H + 1 ≤ 1000000 := by
  have h1 := gi_SL_le (H := H) h.2.2.2.2.2.2.2.2.1
  have h2 := h.1.2
  omega
theorem gx_si {p j : Nat} {x : Int32} (h : gx H) (hp : mu_k H p ≠ 101) : gx (mu_si H p j x) := by
  obtain ⟨a, b, c⟩ := h
  refine ⟨a, b, fun q i hq hk hi => ?_⟩
  rw [mu_i_si, if_neg (fun z => hp (by rw [← z.1]; exact hk))]
  exact c q i hq hk hi
/-- what the class can come to -/
def gi_cd (H : mu_H) (p : Nat) : Prop := p < 169 ∨ ∃ a j, gi_f a j = true ∧ mu_r H a j = some p
theorem mu_same.refl (H : mu_H) (p : Nat) : mu_same H H p := ⟨rfl, rfl, fun _ _ => rfl⟩
theorem mu_same.trans {p : Nat} (h : mu_same H H1 p) (h' : mu_same H1 H2 p) : mu_same H H2 p := ⟨h'.1.trans h.1, h'.2.1.trans h.2.1, fun j tc => (h'.2.2 j tc).trans (h.2.2 j tc)⟩
theorem mu_same.i {p : Nat} (h : mu_same H H1 p) (j : Nat) : mu_i H1 p j = mu_i H p j := Sum.inl.inj (h.2.2 j 0)
theorem mu_same.r {p : Nat} (h : mu_same H H1 p) (j : Nat) : mu_r H1 p j = mu_r H p j := Sum.inr.inj (Sum.inr.inj (h.2.2 j 2))
theorem mu_same.l {p : Nat} (h : mu_same H H1 p) (j : Nat) : mu_l H1 p j = mu_l H p j := Sum.inl.inj (Sum.inr.inj (h.2.2 j 3))
theorem mu_same.of {p : Nat} (hk : mu_k H1 p = mu_k H p) (hn : mu_n H1 p = mu_n H p) (hi : ∀ j, mu_i H1 p j = mu_i H p j) (hl : ∀ j, mu_l H1 p j = mu_l H p j) (hr : ∀ j, mu_r H1 p j = mu_r H p j) : mu_same H H1 p := ⟨hk, hn, fun j tc => by
  unfold mu_f
  split
  · rw [hr]
  · rw [hl]
  · rw [hi]⟩
/-- what has been kept, but for the objects of S and their arrays of ints -/
def gk (S : Nat → Bool) (H H1 : mu_H) : Prop :=
  (mu_z H ≤ mu_z H1 ∧ mu_c H ≤ mu_c H1 ∧ mu_s H ≤ mu_s H1) ∧
  (∀ p, p < mu_z H → mu_k H1 p = mu_k H p ∧ mu_n H1 p = mu_n H p) ∧
  (∀ p k, gi_k p = some k → S p = false → mu_same H H1 p) ∧
  (∀ p j, gi_o p j = true → S p = false → mu_same H H1 (mu_p (mu_r H p j))) ∧
  (∀ p, p < mu_z H → 101 ≤ mu_k H p → mu_same H H1 p) ∧
  (∀ p, p < mu_z H → ¬ gi_cd H p → mu_same H H1 p) ∧
  (∀ p, gi_cd H1 p → gi_cd H p ∨ mu_z H ≤ p) ∧
  (mu_s H1 + 2 * gi_SC H ≤ mu_s H + 2 * gi_SC H1 ∧ mu_z H1 + gi_SL H ≤ mu_z H + gi_SL H1 ∧ mu_c H1 + gi_SL H ≤ mu_c H + gi_SL H1)
theorem gk.refl (S : Nat → Bool) (H : mu_H) : gk S H H := ⟨⟨Nat.le_refl _, Nat.le_refl _, Nat.le_refl _⟩, fun _ _ => ⟨rfl, rfl⟩, fun p _ _ _ => mu_same.refl H p, fun _ _ _ _ => mu_same.refl H _, fun p _ _ => mu_same.refl H p, fun p _ _ => mu_same.refl H p, fun _ h => Or.inl h, Nat.le_refl _, Nat.le_refl _, Nat.le_refl _⟩
theorem gk.trans {S : Nat → Bool} (h : gk S H H1) (h' : gk S H1 H2) : gk S H H2 := by
  obtain ⟨⟨a1, a2, a3⟩, b, c, e, f, g, i, j1, j2, j3⟩ := h
  obtain ⟨⟨a1', a2', a3'⟩, b', c', e', f', g', i', j1', j2', j3'⟩ := h'
  refine ⟨⟨by omega, by omega, by omega⟩, fun p hp => ⟨((b' p (by omega)).1).trans (b p hp).1, ((b' p (by omega)).2).trans (b p hp).2⟩, fun p k hp hs => (c p k hp hs).trans (c' p k hp hs), fun p j hp hs => ?_, fun p hp hk => (f p hp hk).trans (f' p (by omega) (by rw [(b p hp).1]; exact hk)), fun p hp hn => ?_, fun p hp => ?_, by omega, by omega, by omega⟩
  · obtain ⟨-, ⟨k, hk⟩, -⟩ := gi_o_ok hp
    have := e' p j hp hs
    rw [(c p k hk hs).r j] at this
    exact (e p j hp hs).trans this
  · refine (g p hp hn).trans (g' p (by omega) (fun hc => ?_))
    rcases i p hc with z | z
    · exact hn z
    · omega
  · rcases i' p hp with z | z
    · exact i p z
    · exact Or.inr (by omega)
theorem gk.mono {S S' : Nat → Bool} (h : gk S H H1) (hS : ∀ p, S p = true → S' p = true) : gk S' H H1 := by
  have hS' : ∀ p, S' p = false → S p = false := fun p hp => by
    cases hs : S p with
    | false => rfl
    | true => rw [hS p hs] at hp; cases hp
  exact ⟨h.1, h.2.1, fun p k hk hs => h.2.2.1 p k hk (hS' p hs), fun p j hp hs => h.2.2.2.1 p j hp (hS' p hs), h.2.2.2.2⟩
theorem gk.is {S : Nat → Bool} (h : gk S H H1) {o : Option Nat} {k : Nat} (ho : mu_is H o k) : mu_is H1 o k := ⟨ho.1, by have := ho.2.1; have := h.1.1; omega, by rw [(h.2.1 _ ho.2.1).1]; exact ho.2.2⟩
theorem gk.obj {S : Nat → Bool} (h : gk S H H1) {p k : Nat} (hp : gi_k p = some k) (hs : S p = false) : mu_same H H1 p := h.2.2.1 p k hp hs
/-- an int of an object that is no Rows is written -/
theorem gi.si (h : gi H) {p k j : Nat} {x : Int32} (hp : gi_k p = some k) (hw : gi_w p = none) : gi (mu_si H p j x) := by
  obtain ⟨a, b, c, e, f, g, i⟩ := h
  have hne : ∀ r W, gi_w r = some W → r ≠ p := fun r W hr er => by rw [er, hw] at hr; cases hr
  refine ⟨a, b, c, fun r W hr => ?_, f, g, i.1, gx_si i.2 (by rw [b p k hp]; have := (gi_k_ok hp).2; omega)⟩
  obtain ⟨e1, e2⟩ := e r W hr
  have hz : gi_sz (mu_si H p j x) r = gi_sz H r := by
    unfold gi_sz
    rw [mu_i_si, if_neg (fun z => hne r W hr z.1)]
  rw [hz]
  exact ⟨rw_ok_si e1 (hne r W hr), e2⟩
theorem gk.si {S : Nat → Bool} {p k j : Nat} {x : Int32} (hg : gi H) (hp : gi_k p = some k) (hS : S p = true) : gk S H (mu_si H p j x) := by
  have hk := hg.is hp
  have ho : ∀ q, q ≠ p → mu_same H (mu_si H p j x) q := fun q hq => mu_same_si hq
  refine ⟨⟨Nat.le_refl _, Nat.le_refl _, Nat.le_refl _⟩, fun _ _ => ⟨rfl, rfl⟩, fun q k' _ hs => ho q (fun e => by rw [e, hS] at hs; cases hs), fun q i hq hs => ho _ (fun e => ?_), fun q _ hq => ho q (fun e => ?_), fun q _ hn => ho q (fun e => ?_), fun _ h => Or.inl h, Nat.le_refl _, Nat.le_refl _, Nat.le_refl _⟩
  · have h1 := (hg.o hq).2.2
    rw [e] at h1
    have h2 : mu_k H p = k := hk.2.2
    have h3 := (gi_k_ok hp).2
    omega
  · rw [e] at hq
    have h2 : mu_k H p = k := hk.2.2
    have h3 := (gi_k_ok hp).2
    omega
  · exact hn (Or.inl (by rw [e]; exact (gi_k_ok hp).1))
/-- the number of rows is written -/
theorem gi.size (h : gi H) {r W k : Nat} (hr : gi_w r = some W) (hk : k ≤ gi_sz H r) : gi (mu_si H r 2 (nI k)) ∧ gi_sz (mu_si H r 2 (nI k)) r = k ∧ ∀ r', r' ≠ r → gi_sz (mu_si H r 2 (nI k)) r' = gi_sz H r' := by
  have h0 := h
  obtain ⟨a, b, c, e, f, g, i⟩ := h
  have hn := rw_n (e r W hr).1
  have hs : gi_sz (mu_si H r 2 (nI k)) r = k := by
    unfold gi_sz
    rw [mu_i_si, if_pos ⟨rfl, rfl⟩, nI_clamp (by omega)]
  have ho : ∀ r', r' ≠ r → gi_sz (mu_si H r 2 (nI k)) r' = gi_sz H r' := fun r' hr' => by
    unfold gi_sz
    rw [mu_i_si, if_neg (fun z => hr' z.1)]
  refine ⟨⟨a, b, c, fun r' W' hr' => ?_, f, g, i.1, gx_si i.2 (by have : mu_k H r = 10 := (e r W hr).1.1.2.2; omega)⟩, hs, ho⟩
  obtain ⟨e1, e2⟩ := e r' W' hr'
  by_cases er : r' = r
  · rw [er] at hr' e1 e2 ⊢
    rw [hs]
    exact ⟨rw_ok_size e1 hk, e2⟩
  · rw [ho r' er]
    exact ⟨rw_ok_si e1 er, e2⟩
/-- a row is written -/
theorem gi.set (h : gi H) {r W j : Nat} {row v : Int32} (hr : gi_w r = some W) : gi (rw_set H r W (gi_sz H r) row j v) ∧ (∀ p i, mu_k H p < 100 → mu_i (rw_set H r W (gi_sz H r) row j v) p i = mu_i H p i) := by
  have h0 := h
  obtain ⟨a, b, c, e, f, g, i⟩ := h
  have he := rw_set_eq H r W (gi_sz H r) row j v
  have ek : ∀ p, mu_k (rw_set H r W (gi_sz H r) row j v) p = mu_k H p := fun p => by unfold mu_k; rw [he.1]
  have en : ∀ p, mu_n (rw_set H r W (gi_sz H r) row j v) p = mu_n H p := fun p => by unfold mu_n; rw [he.2.1]
  have er : ∀ p i, mu_r (rw_set H r W (gi_sz H r) row j v) p i = mu_r H p i := fun p i => by unfold mu_r; rw [he.2.2]
  have ez : mu_z (rw_set H r W (gi_sz H r) row j v) = mu_z H := by unfold mu_z; rw [he.2.2]
  have ei : ∀ p i, mu_k H p < 100 → mu_i (rw_set H r W (gi_sz H r) row j v) p i = mu_i H p i := fun p i hp => by
    unfold rw_set
    split
    · rfl
    · split
      · rw [mu_i_si, if_neg (fun z => ?_)]
        have := (e r W hr).1.2.1.2.2
        rw [← z.1] at this
        omega
      · rfl
  have ecap : ∀ r', gi_cap (rw_set H r W (gi_sz H r) row j v) r' = gi_cap H r' := fun r' => by unfold gi_cap; rw [er, en]
  have elen : ∀ t, gi_len (rw_set H r W (gi_sz H r) row j v) t = gi_len H t := fun t => by unfold gi_len; rw [er, en]
  have eSL : gi_SL (rw_set H r W (gi_sz H r) row j v) = gi_SL H := by unfold gi_SL; simp only [elen]
  have hgx : gx (rw_set H r W (gi_sz H r) row j v) := by
    obtain ⟨⟨x1, x2, x3⟩, x4, x5⟩ := i.2
    refine ⟨⟨?_, ?_, ?_⟩, fun t ht => by rw [elen]; exact x4 t ht, fun p i hp hk hi => ?_⟩
    · rw [er]; exact rw_set_is x1 _ _ _ _ _ _
    · rw [er]; exact rw_set_is x2 _ _ _ _ _ _
    · rw [er, er]; exact x3
    · rw [ek] at hk
      rw [ez] at hp
      rw [en] at hi
      unfold rw_set
      split
      · exact x5 p i hp hk hi
      · split
        · rw [mu_i_si, if_neg (fun z => ?_)]
          · exact x5 p i hp hk hi
          · have := (e r W hr).1.2.1.2.2
            rw [← z.1] at this
            omega
        · exact x5 p i hp hk hi
  refine ⟨⟨by rw [ez, eSL]; exact a, fun p k hp => by rw [ek]; exact b p k hp, fun p j' q hp => by rw [er]; exact c p j' q hp, fun r' W' hr' => ?_, fun p j' hp => ?_, fun p j1 p' j2 h1 h2 h3 => g p j1 p' j2 h1 h2 (by rw [er, er] at h3; exact h3), fun p x hp => by rw [ek, en]; exact i.1 p x hp, hgx⟩, ei⟩
  · obtain ⟨e1, e2⟩ := e r' W' hr'
    have hsz : gi_sz (rw_set H r W (gi_sz H r) row j v) r' = gi_sz H r' := congrArg Int32.toNatClampNeg (ei r' 2 (by have : mu_k H r' = 10 := e1.1.2.2; omega))
    rw [hsz, ecap]
    exact ⟨rw_ok_set e1 (e r W hr).1, e2⟩
  · rw [er]
    exact rw_set_is (f p j' hp) _ _ _ _ _ _
end Ground
