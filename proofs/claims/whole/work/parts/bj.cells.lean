/-! THE MACHINE: its cells -/
/-- what an operator makes of two numbers -/
def jo (op a b : Int32) : Int32 :=
  if op = 4 ∨ op = 16 then (if a = b then 1 else 0)
  else if op = 7 ∨ op = 17 then (if a = b then 0 else 1)
  else if op = 5 then (a ^^^ 1) ||| b
  else if op = 6 then a ||| b
  else if op = 8 then a &&& b
  else if op = 9 then a ^^^ 1
  else if op = 18 then (if a < b then 1 else 0)
  else if op = 19 then (if b < a then 0 else 1)
  else if op = 20 then (if b < a then 1 else 0)
  else if op = 21 then (if a < b then 0 else 1)
  else if op = 22 then (a + b).toInt16.toInt32
  else if op = 23 then (a - b).toInt16.toInt32
  else if op = 24 then (a * b).toInt16.toInt32
  else if op = 27 then (-a).toInt16.toInt32
  else if op = 25 then (if b = 0 then 0 else (a / b).toInt16.toInt32)
  else (if b = 0 then 0 else a - a / b * b)
/-- A slots of W lanes, l of them used -/
def mx (U : Ud) (A W l : Nat) : Prop := U.2.1 100 17 = nI W ∧ U.2.1 100 18 = nI l ∧ 1 ≤ l ∧ l ≤ W ∧ W ≤ 1024 ∧ A * W ≤ (U.2.2.1 100 8).1 ∧ (U.2.2.1 100 8).1 ≤ 16777216 ∧ A ≤ (U.2.2.1 100 12).1 ∧ (U.2.2.1 100 12).1 ≤ 16777216
/-- what a slot has in a lane -/
def cv (U : Ud) (W s k : Nat) : Int32 := if (U.2.2.1 100 12).2 s = 0 then (U.2.2.1 100 8).2 (s * W) else (U.2.2.1 100 8).2 (s * W + k)
def cpU (U : Ud) (W l s t : Nat) : Ud := upF (upA U 100 12 t ((U.2.2.1 100 12).2 s)) 100 8 (t * W) (fun i => (U.2.2.1 100 8).2 (s * W + i)) (if (U.2.2.1 100 12).2 s = 0 then 1 else l)
def sgn (x : Int32) : Int32 := (x.toUInt32 >>> (Int32.toUInt32 31 &&& Int32.toUInt32 31)).toInt32
def jT (op a b : Int32) : Int32 :=
  if op = 5 then (a ^^^ 1) ||| b
  else if op = 6 then a ||| b
  else if op = 8 then a &&& b
  else if op = 9 then a ^^^ 1
  else sgn ((a ^^^ b) ||| (-(a ^^^ b))) ^^^ (if op = 4 ∨ op = 16 then 1 else 0)
def jN (op a b : Int32) : Int32 :=
  if op = 22 then (a + b).toInt16.toInt32
  else if op = 23 then (a - b).toInt16.toInt32
  else if op = 24 then (a * b).toInt16.toInt32
  else if op = 27 then (-a).toInt16.toInt32
  else if op = 18 ∨ op = 21 then sgn (a - b) ^^^ (if op = 21 then 1 else 0)
  else sgn (b - a) ^^^ (if op = 19 then 1 else 0)
section Cells
variable {H : mu_H} {m d A W l s t k o : Nat} {C : Nat → Nat} {U : Ud}
theorem mul_in {s A W : Nat} (h : s < A) : s * W + W ≤ A * W := by
  have := Nat.mul_le_mul_right W (show s + 1 ≤ A from h)
  rwa [Nat.succ_mul] at this
theorem upF_next {P J b k : Nat} {g : Nat → Int32} : upA (upF U P J b g k) P J (b + k) (g k) = upF U P J b g (k + 1) := by
  rw [upF_succ]
  refine congrArg (fun z => upF U P J b z (k + 1)) (funext fun i => ?_)
  by_cases e : i = k
  · rw [if_pos e, e]
  · rw [if_neg e]
theorem upF_to {P J b k n : Nat} {g g' : Nat → Int32} (hk : k = n) (hg : g = g') : upF U P J b g k = upF U P J b g' n := by rw [hk, hg]
/-- PathProver$Machine.joinOne(III)I -/
abbrev mu_m228 : ev_M := (3, (some .int), [], ev_b228)
theorem mu_g228 : mu_good mu_m228 := mu_goodk ev_k228
theorem mc_one {op a b : Int32} : mu_TI (mu_D (d + 1)) 228 [.inl op, .inl a, .inl b] H (fun x H1 => x = jo op a b ∧ H1 = H) := by
  refine mu_meth (M := mu_m228) rfl rfl ?_
  refine mw_ht (mu_fn_of (show [0, 1, 2].Nodup by decide)) ?_
  refine mw_go mu_g228 (k := 1) (f1 := (1, [(0, .inl op), (1, .inl a), (2, .inl b)], [.inl op], H)) (C := []) rfl trivial ?_
  refine mw_tsw2 rfl (by decide) (fun hx => ?_) ⟨fun z => ?_, fun z => ?_, fun z => ?_, fun z => ?_, fun z => ?_, fun z => ?_, fun z => ?_, fun z => ?_, fun z => ?_, fun z => ?_, fun z => ?_, fun z => ?_, fun z => ?_, fun z => ?_, fun z => ?_, fun z => ?_, fun z => ?_, fun z => ?_, fun z => ?_, fun z => ?_, fun z => ?_, fun z => ?_, fun z => ?_, fun z => ?_, trivial⟩
  · -- None: 228
    have e4 : ¬ op = (4 : Int32) := fun y => by rw [y] at hx; revert hx; decide
    have e16 : ¬ op = (16 : Int32) := fun y => by rw [y] at hx; revert hx; decide
    have e7 : ¬ op = (7 : Int32) := fun y => by rw [y] at hx; revert hx; decide
    have e17 : ¬ op = (17 : Int32) := fun y => by rw [y] at hx; revert hx; decide
    have e5 : ¬ op = (5 : Int32) := fun y => by rw [y] at hx; revert hx; decide
    have e6 : ¬ op = (6 : Int32) := fun y => by rw [y] at hx; revert hx; decide
    have e8 : ¬ op = (8 : Int32) := fun y => by rw [y] at hx; revert hx; decide
    have e9 : ¬ op = (9 : Int32) := fun y => by rw [y] at hx; revert hx; decide
    have e18 : ¬ op = (18 : Int32) := fun y => by rw [y] at hx; revert hx; decide
    have e19 : ¬ op = (19 : Int32) := fun y => by rw [y] at hx; revert hx; decide
    have e20 : ¬ op = (20 : Int32) := fun y => by rw [y] at hx; revert hx; decide
    have e21 : ¬ op = (21 : Int32) := fun y => by rw [y] at hx; revert hx; decide
    have e22 : ¬ op = (22 : Int32) := fun y => by rw [y] at hx; revert hx; decide
    have e23 : ¬ op = (23 : Int32) := fun y => by rw [y] at hx; revert hx; decide
    have e24 : ¬ op = (24 : Int32) := fun y => by rw [y] at hx; revert hx; decide
    have e27 : ¬ op = (27 : Int32) := fun y => by rw [y] at hx; revert hx; decide
    have e25 : ¬ op = (25 : Int32) := fun y => by rw [y] at hx; revert hx; decide
    refine mw_go mu_g228 (k := 1) (f1 := (229, [(0, .inl op), (1, .inl a), (2, .inl b)], [.inl b], H)) (C := []) rfl trivial ?_
    refine mw_if (P := b = 0) (a := 232) (b := 236) (fun _ => rfl) trivial (fun h2 => ?_) (fun h2 => ?_)
    · -- 232: b = 0
      refine mw_go mu_g228 (k := 2) (f1 := (239, [(0, .inl op), (1, .inl a), (2, .inl b)], [.inl (0 : Int32)], H)) (C := []) rfl trivial ?_
      exact mw_of (fun _ => mu_ret rfl trivial ⟨_, _, rfl, (by unfold jo; simp [h2, e4, e16, e7, e17, e5, e6, e8, e9, e18, e19, e20, e21, e22, e23, e24, e27, e25]), rfl⟩)
    · -- 236: not b = 0
      refine mw_go mu_g228 (k := 3) (f1 := (239, [(0, .inl op), (1, .inl a), (2, .inl b)], [.inl (a - a / b * b)], H)) (C := [¬ b = 0]) rfl (show ¬ b = 0 from (by assumption)) ?_
      exact mw_of (fun _ => mu_ret rfl trivial ⟨_, _, rfl, (by unfold jo; simp [h2, e4, e16, e7, e17, e5, e6, e8, e9, e18, e19, e20, e21, e22, e23, e24, e27, e25]), rfl⟩)
  · -- 4: 112
    have h3 : op = (4 : Int32) := Int32.toInt_inj.mp (z.trans (by decide))
    refine mw_go mu_g228 (k := 2) (f1 := (114, [(0, .inl op), (1, .inl a), (2, .inl b)], [.inl b, .inl a], H)) (C := []) rfl trivial ?_
    refine mw_if (P := a = b) (a := 117) (b := 121) (fun _ => rfl) trivial (fun h4 => ?_) (fun h4 => ?_)
    · -- 117: a = b
      refine mw_go mu_g228 (k := 2) (f1 := (122, [(0, .inl op), (1, .inl a), (2, .inl b)], [.inl (1 : Int32)], H)) (C := []) rfl trivial ?_
      exact mw_of (fun _ => mu_ret rfl trivial ⟨_, _, rfl, (by unfold jo; simp [h3, h4]), rfl⟩)
    · -- 121: not a = b
      refine mw_go mu_g228 (k := 1) (f1 := (122, [(0, .inl op), (1, .inl a), (2, .inl b)], [.inl (0 : Int32)], H)) (C := []) rfl trivial ?_
      exact mw_of (fun _ => mu_ret rfl trivial ⟨_, _, rfl, (by unfold jo; simp [h3, h4]), rfl⟩)
  · -- 5: 134
    have h5 : op = (5 : Int32) := Int32.toInt_inj.mp (z.trans (by decide))
    refine mw_go mu_g228 (k := 5) (f1 := (139, [(0, .inl op), (1, .inl a), (2, .inl b)], [.inl ((a ^^^ (1 : Int32)) ||| b)], H)) (C := []) rfl trivial ?_
    exact mw_of (fun _ => mu_ret rfl trivial ⟨_, _, rfl, (by unfold jo; simp [h5]), rfl⟩)
  · -- 6: 140
    have h6 : op = (6 : Int32) := Int32.toInt_inj.mp (z.trans (by decide))
    refine mw_go mu_g228 (k := 3) (f1 := (143, [(0, .inl op), (1, .inl a), (2, .inl b)], [.inl (a ||| b)], H)) (C := []) rfl trivial ?_
    exact mw_of (fun _ => mu_ret rfl trivial ⟨_, _, rfl, (by unfold jo; simp [h6]), rfl⟩)
  · -- 7: 123
    have h7 : op = (7 : Int32) := Int32.toInt_inj.mp (z.trans (by decide))
    refine mw_go mu_g228 (k := 2) (f1 := (125, [(0, .inl op), (1, .inl a), (2, .inl b)], [.inl b, .inl a], H)) (C := []) rfl trivial ?_
    refine mw_if (P := a = b) (a := 132) (b := 128) (fun _ => rfl) trivial (fun h8 => ?_) (fun h8 => ?_)
    · -- 132: a = b
      refine mw_go mu_g228 (k := 1) (f1 := (133, [(0, .inl op), (1, .inl a), (2, .inl b)], [.inl (0 : Int32)], H)) (C := []) rfl trivial ?_
      exact mw_of (fun _ => mu_ret rfl trivial ⟨_, _, rfl, (by unfold jo; simp [h7, h8]), rfl⟩)
    · -- 128: not a = b
      refine mw_go mu_g228 (k := 2) (f1 := (133, [(0, .inl op), (1, .inl a), (2, .inl b)], [.inl (1 : Int32)], H)) (C := []) rfl trivial ?_
      exact mw_of (fun _ => mu_ret rfl trivial ⟨_, _, rfl, (by unfold jo; simp [h7, h8]), rfl⟩)
  · -- 8: 144
    have h9 : op = (8 : Int32) := Int32.toInt_inj.mp (z.trans (by decide))
    refine mw_go mu_g228 (k := 3) (f1 := (147, [(0, .inl op), (1, .inl a), (2, .inl b)], [.inl (a &&& b)], H)) (C := []) rfl trivial ?_
    exact mw_of (fun _ => mu_ret rfl trivial ⟨_, _, rfl, (by unfold jo; simp [h9]), rfl⟩)
  · -- 9: 148
    have h10 : op = (9 : Int32) := Int32.toInt_inj.mp (z.trans (by decide))
    refine mw_go mu_g228 (k := 3) (f1 := (151, [(0, .inl op), (1, .inl a), (2, .inl b)], [.inl (a ^^^ (1 : Int32))], H)) (C := []) rfl trivial ?_
    exact mw_of (fun _ => mu_ret rfl trivial ⟨_, _, rfl, (by unfold jo; simp [h10]), rfl⟩)
  · -- 10: 228
    have h11 : op = (10 : Int32) := Int32.toInt_inj.mp (z.trans (by decide))
    refine mw_go mu_g228 (k := 1) (f1 := (229, [(0, .inl op), (1, .inl a), (2, .inl b)], [.inl b], H)) (C := []) rfl trivial ?_
    refine mw_if (P := b = 0) (a := 232) (b := 236) (fun _ => rfl) trivial (fun h12 => ?_) (fun h12 => ?_)
    · -- 232: b = 0
      refine mw_go mu_g228 (k := 2) (f1 := (239, [(0, .inl op), (1, .inl a), (2, .inl b)], [.inl (0 : Int32)], H)) (C := []) rfl trivial ?_
      exact mw_of (fun _ => mu_ret rfl trivial ⟨_, _, rfl, (by unfold jo; simp [h11, h12]), rfl⟩)
    · -- 236: not b = 0
      refine mw_go mu_g228 (k := 3) (f1 := (239, [(0, .inl op), (1, .inl a), (2, .inl b)], [.inl (a - a / b * b)], H)) (C := [¬ b = 0]) rfl (show ¬ b = 0 from (by assumption)) ?_
      exact mw_of (fun _ => mu_ret rfl trivial ⟨_, _, rfl, (by unfold jo; simp [h11, h12]), rfl⟩)
  · -- 11: 228
    have h13 : op = (11 : Int32) := Int32.toInt_inj.mp (z.trans (by decide))
    refine mw_go mu_g228 (k := 1) (f1 := (229, [(0, .inl op), (1, .inl a), (2, .inl b)], [.inl b], H)) (C := []) rfl trivial ?_
    refine mw_if (P := b = 0) (a := 232) (b := 236) (fun _ => rfl) trivial (fun h14 => ?_) (fun h14 => ?_)
    · -- 232: b = 0
      refine mw_go mu_g228 (k := 2) (f1 := (239, [(0, .inl op), (1, .inl a), (2, .inl b)], [.inl (0 : Int32)], H)) (C := []) rfl trivial ?_
      exact mw_of (fun _ => mu_ret rfl trivial ⟨_, _, rfl, (by unfold jo; simp [h13, h14]), rfl⟩)
    · -- 236: not b = 0
      refine mw_go mu_g228 (k := 3) (f1 := (239, [(0, .inl op), (1, .inl a), (2, .inl b)], [.inl (a - a / b * b)], H)) (C := [¬ b = 0]) rfl (show ¬ b = 0 from (by assumption)) ?_
      exact mw_of (fun _ => mu_ret rfl trivial ⟨_, _, rfl, (by unfold jo; simp [h13, h14]), rfl⟩)
  · -- 12: 228
    have h15 : op = (12 : Int32) := Int32.toInt_inj.mp (z.trans (by decide))
    refine mw_go mu_g228 (k := 1) (f1 := (229, [(0, .inl op), (1, .inl a), (2, .inl b)], [.inl b], H)) (C := []) rfl trivial ?_
    refine mw_if (P := b = 0) (a := 232) (b := 236) (fun _ => rfl) trivial (fun h16 => ?_) (fun h16 => ?_)
    · -- 232: b = 0
      refine mw_go mu_g228 (k := 2) (f1 := (239, [(0, .inl op), (1, .inl a), (2, .inl b)], [.inl (0 : Int32)], H)) (C := []) rfl trivial ?_
      exact mw_of (fun _ => mu_ret rfl trivial ⟨_, _, rfl, (by unfold jo; simp [h15, h16]), rfl⟩)
    · -- 236: not b = 0
      refine mw_go mu_g228 (k := 3) (f1 := (239, [(0, .inl op), (1, .inl a), (2, .inl b)], [.inl (a - a / b * b)], H)) (C := [¬ b = 0]) rfl (show ¬ b = 0 from (by assumption)) ?_
      exact mw_of (fun _ => mu_ret rfl trivial ⟨_, _, rfl, (by unfold jo; simp [h15, h16]), rfl⟩)
  · -- 13: 228
    have h17 : op = (13 : Int32) := Int32.toInt_inj.mp (z.trans (by decide))
    refine mw_go mu_g228 (k := 1) (f1 := (229, [(0, .inl op), (1, .inl a), (2, .inl b)], [.inl b], H)) (C := []) rfl trivial ?_
    refine mw_if (P := b = 0) (a := 232) (b := 236) (fun _ => rfl) trivial (fun h18 => ?_) (fun h18 => ?_)
    · -- 232: b = 0
      refine mw_go mu_g228 (k := 2) (f1 := (239, [(0, .inl op), (1, .inl a), (2, .inl b)], [.inl (0 : Int32)], H)) (C := []) rfl trivial ?_
      exact mw_of (fun _ => mu_ret rfl trivial ⟨_, _, rfl, (by unfold jo; simp [h17, h18]), rfl⟩)
    · -- 236: not b = 0
      refine mw_go mu_g228 (k := 3) (f1 := (239, [(0, .inl op), (1, .inl a), (2, .inl b)], [.inl (a - a / b * b)], H)) (C := [¬ b = 0]) rfl (show ¬ b = 0 from (by assumption)) ?_
      exact mw_of (fun _ => mu_ret rfl trivial ⟨_, _, rfl, (by unfold jo; simp [h17, h18]), rfl⟩)
  · -- 14: 228
    have h19 : op = (14 : Int32) := Int32.toInt_inj.mp (z.trans (by decide))
    refine mw_go mu_g228 (k := 1) (f1 := (229, [(0, .inl op), (1, .inl a), (2, .inl b)], [.inl b], H)) (C := []) rfl trivial ?_
    refine mw_if (P := b = 0) (a := 232) (b := 236) (fun _ => rfl) trivial (fun h20 => ?_) (fun h20 => ?_)
    · -- 232: b = 0
      refine mw_go mu_g228 (k := 2) (f1 := (239, [(0, .inl op), (1, .inl a), (2, .inl b)], [.inl (0 : Int32)], H)) (C := []) rfl trivial ?_
      exact mw_of (fun _ => mu_ret rfl trivial ⟨_, _, rfl, (by unfold jo; simp [h19, h20]), rfl⟩)
    · -- 236: not b = 0
      refine mw_go mu_g228 (k := 3) (f1 := (239, [(0, .inl op), (1, .inl a), (2, .inl b)], [.inl (a - a / b * b)], H)) (C := [¬ b = 0]) rfl (show ¬ b = 0 from (by assumption)) ?_
      exact mw_of (fun _ => mu_ret rfl trivial ⟨_, _, rfl, (by unfold jo; simp [h19, h20]), rfl⟩)
  · -- 15: 228
    have h21 : op = (15 : Int32) := Int32.toInt_inj.mp (z.trans (by decide))
    refine mw_go mu_g228 (k := 1) (f1 := (229, [(0, .inl op), (1, .inl a), (2, .inl b)], [.inl b], H)) (C := []) rfl trivial ?_
    refine mw_if (P := b = 0) (a := 232) (b := 236) (fun _ => rfl) trivial (fun h22 => ?_) (fun h22 => ?_)
    · -- 232: b = 0
      refine mw_go mu_g228 (k := 2) (f1 := (239, [(0, .inl op), (1, .inl a), (2, .inl b)], [.inl (0 : Int32)], H)) (C := []) rfl trivial ?_
      exact mw_of (fun _ => mu_ret rfl trivial ⟨_, _, rfl, (by unfold jo; simp [h21, h22]), rfl⟩)
    · -- 236: not b = 0
      refine mw_go mu_g228 (k := 3) (f1 := (239, [(0, .inl op), (1, .inl a), (2, .inl b)], [.inl (a - a / b * b)], H)) (C := [¬ b = 0]) rfl (show ¬ b = 0 from (by assumption)) ?_
      exact mw_of (fun _ => mu_ret rfl trivial ⟨_, _, rfl, (by unfold jo; simp [h21, h22]), rfl⟩)
  · -- 16: 112
    have h23 : op = (16 : Int32) := Int32.toInt_inj.mp (z.trans (by decide))
    refine mw_go mu_g228 (k := 2) (f1 := (114, [(0, .inl op), (1, .inl a), (2, .inl b)], [.inl b, .inl a], H)) (C := []) rfl trivial ?_
    refine mw_if (P := a = b) (a := 117) (b := 121) (fun _ => rfl) trivial (fun h24 => ?_) (fun h24 => ?_)
    · -- 117: a = b
      refine mw_go mu_g228 (k := 2) (f1 := (122, [(0, .inl op), (1, .inl a), (2, .inl b)], [.inl (1 : Int32)], H)) (C := []) rfl trivial ?_
      exact mw_of (fun _ => mu_ret rfl trivial ⟨_, _, rfl, (by unfold jo; simp [h23, h24]), rfl⟩)
    · -- 121: not a = b
      refine mw_go mu_g228 (k := 1) (f1 := (122, [(0, .inl op), (1, .inl a), (2, .inl b)], [.inl (0 : Int32)], H)) (C := []) rfl trivial ?_
      exact mw_of (fun _ => mu_ret rfl trivial ⟨_, _, rfl, (by unfold jo; simp [h23, h24]), rfl⟩)
  · -- 17: 123
    have h25 : op = (17 : Int32) := Int32.toInt_inj.mp (z.trans (by decide))
    refine mw_go mu_g228 (k := 2) (f1 := (125, [(0, .inl op), (1, .inl a), (2, .inl b)], [.inl b, .inl a], H)) (C := []) rfl trivial ?_
    refine mw_if (P := a = b) (a := 132) (b := 128) (fun _ => rfl) trivial (fun h26 => ?_) (fun h26 => ?_)
    · -- 132: a = b
      refine mw_go mu_g228 (k := 1) (f1 := (133, [(0, .inl op), (1, .inl a), (2, .inl b)], [.inl (0 : Int32)], H)) (C := []) rfl trivial ?_
      exact mw_of (fun _ => mu_ret rfl trivial ⟨_, _, rfl, (by unfold jo; simp [h25, h26]), rfl⟩)
    · -- 128: not a = b
      refine mw_go mu_g228 (k := 2) (f1 := (133, [(0, .inl op), (1, .inl a), (2, .inl b)], [.inl (1 : Int32)], H)) (C := []) rfl trivial ?_
      exact mw_of (fun _ => mu_ret rfl trivial ⟨_, _, rfl, (by unfold jo; simp [h25, h26]), rfl⟩)
  · -- 18: 152
    have h27 : op = (18 : Int32) := Int32.toInt_inj.mp (z.trans (by decide))
    refine mw_go mu_g228 (k := 2) (f1 := (154, [(0, .inl op), (1, .inl a), (2, .inl b)], [.inl b, .inl a], H)) (C := []) rfl trivial ?_
    refine mw_if (P := a < b) (a := 157) (b := 161) (fun _ => rfl) trivial (fun h28 => ?_) (fun h28 => ?_)
    · -- 157: a < b
      refine mw_go mu_g228 (k := 2) (f1 := (162, [(0, .inl op), (1, .inl a), (2, .inl b)], [.inl (1 : Int32)], H)) (C := []) rfl trivial ?_
      exact mw_of (fun _ => mu_ret rfl trivial ⟨_, _, rfl, (by unfold jo; simp [h27, h28]), rfl⟩)
    · -- 161: not a < b
      refine mw_go mu_g228 (k := 1) (f1 := (162, [(0, .inl op), (1, .inl a), (2, .inl b)], [.inl (0 : Int32)], H)) (C := []) rfl trivial ?_
      exact mw_of (fun _ => mu_ret rfl trivial ⟨_, _, rfl, (by unfold jo; simp [h27, h28]), rfl⟩)
  · -- 19: 163
    have h29 : op = (19 : Int32) := Int32.toInt_inj.mp (z.trans (by decide))
    refine mw_go mu_g228 (k := 2) (f1 := (165, [(0, .inl op), (1, .inl a), (2, .inl b)], [.inl b, .inl a], H)) (C := []) rfl trivial ?_
    refine mw_if (P := b < a) (a := 172) (b := 168) (fun _ => rfl) trivial (fun h30 => ?_) (fun h30 => ?_)
    · -- 172: b < a
      refine mw_go mu_g228 (k := 1) (f1 := (173, [(0, .inl op), (1, .inl a), (2, .inl b)], [.inl (0 : Int32)], H)) (C := []) rfl trivial ?_
      exact mw_of (fun _ => mu_ret rfl trivial ⟨_, _, rfl, (by unfold jo; simp [h29, h30]), rfl⟩)
    · -- 168: not b < a
      refine mw_go mu_g228 (k := 2) (f1 := (173, [(0, .inl op), (1, .inl a), (2, .inl b)], [.inl (1 : Int32)], H)) (C := []) rfl trivial ?_
      exact mw_of (fun _ => mu_ret rfl trivial ⟨_, _, rfl, (by unfold jo; simp [h29, h30]), rfl⟩)
  · -- 20: 174
    have h31 : op = (20 : Int32) := Int32.toInt_inj.mp (z.trans (by decide))
    refine mw_go mu_g228 (k := 2) (f1 := (176, [(0, .inl op), (1, .inl a), (2, .inl b)], [.inl b, .inl a], H)) (C := []) rfl trivial ?_
    refine mw_if (P := b < a) (a := 179) (b := 183) (fun _ => rfl) trivial (fun h32 => ?_) (fun h32 => ?_)
    · -- 179: b < a
      refine mw_go mu_g228 (k := 2) (f1 := (184, [(0, .inl op), (1, .inl a), (2, .inl b)], [.inl (1 : Int32)], H)) (C := []) rfl trivial ?_
      exact mw_of (fun _ => mu_ret rfl trivial ⟨_, _, rfl, (by unfold jo; simp [h31, h32]), rfl⟩)
    · -- 183: not b < a
      refine mw_go mu_g228 (k := 1) (f1 := (184, [(0, .inl op), (1, .inl a), (2, .inl b)], [.inl (0 : Int32)], H)) (C := []) rfl trivial ?_
      exact mw_of (fun _ => mu_ret rfl trivial ⟨_, _, rfl, (by unfold jo; simp [h31, h32]), rfl⟩)
  · -- 21: 185
    have h33 : op = (21 : Int32) := Int32.toInt_inj.mp (z.trans (by decide))
    refine mw_go mu_g228 (k := 2) (f1 := (187, [(0, .inl op), (1, .inl a), (2, .inl b)], [.inl b, .inl a], H)) (C := []) rfl trivial ?_
    refine mw_if (P := a < b) (a := 194) (b := 190) (fun _ => rfl) trivial (fun h34 => ?_) (fun h34 => ?_)
    · -- 194: a < b
      refine mw_go mu_g228 (k := 1) (f1 := (195, [(0, .inl op), (1, .inl a), (2, .inl b)], [.inl (0 : Int32)], H)) (C := []) rfl trivial ?_
      exact mw_of (fun _ => mu_ret rfl trivial ⟨_, _, rfl, (by unfold jo; simp [h33, h34]), rfl⟩)
    · -- 190: not a < b
      refine mw_go mu_g228 (k := 2) (f1 := (195, [(0, .inl op), (1, .inl a), (2, .inl b)], [.inl (1 : Int32)], H)) (C := []) rfl trivial ?_
      exact mw_of (fun _ => mu_ret rfl trivial ⟨_, _, rfl, (by unfold jo; simp [h33, h34]), rfl⟩)
  · -- 22: 196
    have h35 : op = (22 : Int32) := Int32.toInt_inj.mp (z.trans (by decide))
    refine mw_go mu_g228 (k := 4) (f1 := (200, [(0, .inl op), (1, .inl a), (2, .inl b)], [.inl ((a + b).toInt16.toInt32)], H)) (C := []) rfl trivial ?_
    exact mw_of (fun _ => mu_ret rfl trivial ⟨_, _, rfl, (by unfold jo; simp [h35]), rfl⟩)
  · -- 23: 201
    have h36 : op = (23 : Int32) := Int32.toInt_inj.mp (z.trans (by decide))
    refine mw_go mu_g228 (k := 4) (f1 := (205, [(0, .inl op), (1, .inl a), (2, .inl b)], [.inl ((a - b).toInt16.toInt32)], H)) (C := []) rfl trivial ?_
    exact mw_of (fun _ => mu_ret rfl trivial ⟨_, _, rfl, (by unfold jo; simp [h36]), rfl⟩)
  · -- 24: 206
    have h37 : op = (24 : Int32) := Int32.toInt_inj.mp (z.trans (by decide))
    refine mw_go mu_g228 (k := 4) (f1 := (210, [(0, .inl op), (1, .inl a), (2, .inl b)], [.inl ((a * b).toInt16.toInt32)], H)) (C := []) rfl trivial ?_
    exact mw_of (fun _ => mu_ret rfl trivial ⟨_, _, rfl, (by unfold jo; simp [h37]), rfl⟩)
  · -- 25: 215
    have h38 : op = (25 : Int32) := Int32.toInt_inj.mp (z.trans (by decide))
    refine mw_go mu_g228 (k := 1) (f1 := (216, [(0, .inl op), (1, .inl a), (2, .inl b)], [.inl b], H)) (C := []) rfl trivial ?_
    refine mw_if (P := b = 0) (a := 219) (b := 223) (fun _ => rfl) trivial (fun h39 => ?_) (fun h39 => ?_)
    · -- 219: b = 0
      refine mw_go mu_g228 (k := 2) (f1 := (227, [(0, .inl op), (1, .inl a), (2, .inl b)], [.inl (0 : Int32)], H)) (C := []) rfl trivial ?_
      exact mw_of (fun _ => mu_ret rfl trivial ⟨_, _, rfl, (by unfold jo; simp [h38, h39]), rfl⟩)
    · -- 223: not b = 0
      refine mw_go mu_g228 (k := 4) (f1 := (227, [(0, .inl op), (1, .inl a), (2, .inl b)], [.inl ((a / b).toInt16.toInt32)], H)) (C := [¬ b = 0]) rfl (show ¬ b = 0 from (by assumption)) ?_
      exact mw_of (fun _ => mu_ret rfl trivial ⟨_, _, rfl, (by unfold jo; simp [h38, h39]), rfl⟩)
  · -- 26: 228
    have h40 : op = (26 : Int32) := Int32.toInt_inj.mp (z.trans (by decide))
    refine mw_go mu_g228 (k := 1) (f1 := (229, [(0, .inl op), (1, .inl a), (2, .inl b)], [.inl b], H)) (C := []) rfl trivial ?_
    refine mw_if (P := b = 0) (a := 232) (b := 236) (fun _ => rfl) trivial (fun h41 => ?_) (fun h41 => ?_)
    · -- 232: b = 0
      refine mw_go mu_g228 (k := 2) (f1 := (239, [(0, .inl op), (1, .inl a), (2, .inl b)], [.inl (0 : Int32)], H)) (C := []) rfl trivial ?_
      exact mw_of (fun _ => mu_ret rfl trivial ⟨_, _, rfl, (by unfold jo; simp [h40, h41]), rfl⟩)
    · -- 236: not b = 0
      refine mw_go mu_g228 (k := 3) (f1 := (239, [(0, .inl op), (1, .inl a), (2, .inl b)], [.inl (a - a / b * b)], H)) (C := [¬ b = 0]) rfl (show ¬ b = 0 from (by assumption)) ?_
      exact mw_of (fun _ => mu_ret rfl trivial ⟨_, _, rfl, (by unfold jo; simp [h40, h41]), rfl⟩)
  · -- 27: 211
    have h42 : op = (27 : Int32) := Int32.toInt_inj.mp (z.trans (by decide))
    refine mw_go mu_g228 (k := 3) (f1 := (214, [(0, .inl op), (1, .inl a), (2, .inl b)], [.inl ((-a).toInt16.toInt32)], H)) (C := []) rfl trivial ?_
    exact mw_of (fun _ => mu_ret rfl trivial ⟨_, _, rfl, (by unfold jo; simp [h42]), rfl⟩)
/-- PathProver$Machine.cell(II)I -/
abbrev mu_m216 : ev_M := (3, (some .int), [], ev_b216)
theorem mu_g216 : mu_good mu_m216 := mu_goodk ev_k216
theorem mc_cell (h : um m H) (e : ud m H = U) (hx : mx U A W l) (hs : s < A) (hk : k < l) : mu_TI (mu_D (d + 1)) 216 [.inr (.inr (some 100)), .inl (nI s), .inl (nI k)] H (fun x H1 => x = cv U W s k ∧ H1 = H) := by
  obtain ⟨hW, hl, hl1, hlW, hW2, hA8, c8, hA12, c12⟩ := hx
  have hb := mul_in (W := W) hs
  refine mu_meth (M := mu_m216) rfl rfl ?_
  refine mw_ht (mu_fn_of (show [0, 1, 2].Nodup by decide)) ?_
  refine mw_go mu_g216 (k := 2) (f1 := (4, [(0, .inr (.inr (some 100))), (1, .inl (nI s)), (2, .inl (nI k))], [.inr (.inr (mu_r H 100 8))], H)) (C := [mu_is H (some 100) 5]) rfl (show mu_is H (some 100) 5 from (h.1.1.is rfl)) ?_
  rw [(show mu_r H 100 8 = (U.2.2.2.1 100 8) from (ud_q (m := m) (P := 100) (j := 8) e rfl))]
  refine mw_go mu_g216 (k := 3) (f1 := (9, [(0, .inr (.inr (some 100))), (1, .inl (nI s)), (2, .inl (nI k))], [.inl (mu_i H 100 17), .inl (nI s), .inr (.inr (U.2.2.2.1 100 8))], H)) (C := [mu_is H (some 100) 5]) rfl (show mu_is H (some 100) 5 from (h.1.1.is rfl)) ?_
  rw [(show mu_i H 100 17 = (nI W) from (ud_i (m := m) (P := 100) (j := 17) e rfl).trans hW)]
  refine mw_go mu_g216 (k := 1) (f1 := (10, [(0, .inr (.inr (some 100))), (1, .inl (nI s)), (2, .inl (nI k))], [.inl ((nI s) * (nI W)), .inr (.inr (U.2.2.2.1 100 8))], H)) (C := []) rfl trivial ?_
  rw [(show ((nI s) * (nI W)) = (nI (s * W)) from (nI_mul (a := s) (b := W)))]
  refine mw_go mu_g216 (k := 2) (f1 := (14, [(0, .inr (.inr (some 100))), (1, .inl (nI s)), (2, .inl (nI k))], [.inr (.inr (mu_r H 100 12)), .inl (nI (s * W)), .inr (.inr (U.2.2.2.1 100 8))], H)) (C := [mu_is H (some 100) 5]) rfl (show mu_is H (some 100) 5 from (h.1.1.is rfl)) ?_
  rw [(show mu_r H 100 12 = (U.2.2.2.1 100 12) from (ud_q (m := m) (P := 100) (j := 12) e rfl))]
  refine mw_go mu_g216 (k := 2) (f1 := (16, [(0, .inr (.inr (some 100))), (1, .inl (nI s)), (2, .inl (nI k))], [.inl (mu_i H (mu_p (U.2.2.2.1 100 12)) (nI s).toNatClampNeg), .inl (nI (s * W)), .inr (.inr (U.2.2.2.1 100 8))], H)) (C := [mu_isr H (U.2.2.2.1 100 12) 100, vp_in (nI s) (mu_n H (mu_p (U.2.2.2.1 100 12)))]) rfl (show (mu_isr H (U.2.2.2.1 100 12) 100) ∧ (vp_in (nI s) (mu_n H (mu_p (U.2.2.2.1 100 12)))) from ⟨((h.iA e rfl rfl (show U.2.2.2.1 100 12 = (U.2.2.2.1 100 12) from rfl))).r, (h.vA e rfl rfl (show U.2.2.2.1 100 12 = (U.2.2.2.1 100 12) from rfl) (show (U.2.2.1 100 12).1 = (U.2.2.1 100 12).1 from rfl) (by omega) (by omega))⟩) ?_
  rw [(show (mu_i H (mu_p (U.2.2.2.1 100 12)) (nI s).toNatClampNeg) = ((U.2.2.1 100 12).2 s) from ((congrArg (mu_i H (mu_p (U.2.2.2.1 100 12))) (nI_clamp (by omega))).trans (h.gA e rfl rfl (show U.2.2.2.1 100 12 = (U.2.2.2.1 100 12) from rfl))).trans ((congrArg (fun z => z.2 s) (show U.2.2.1 100 12 = (U.2.2.1 100 12) from rfl)).trans rfl))]
  refine mw_if (P := ((U.2.2.1 100 12).2 s) = 0) (a := 23) (b := 19) (fun _ => rfl) trivial (fun h1 => ?_) (fun h1 => ?_)
  · -- 23: ((U.2.2.1 100 12).2 s) = 0
    refine mw_go mu_g216 (k := 2) (f1 := (25, [(0, .inr (.inr (some 100))), (1, .inl (nI s)), (2, .inl (nI k))], [.inl ((nI (s * W)) + (0 : Int32)), .inr (.inr (U.2.2.2.1 100 8))], H)) (C := []) rfl trivial ?_
    rw [(show ((nI (s * W)) + (0 : Int32)) = (nI ((s * W) + 0)) from (nI_add (s * W) 0))]
    refine mw_go mu_g216 (k := 1) (f1 := (26, [(0, .inr (.inr (some 100))), (1, .inl (nI s)), (2, .inl (nI k))], [.inl (mu_i H (mu_p (U.2.2.2.1 100 8)) (nI ((s * W) + 0)).toNatClampNeg)], H)) (C := [mu_isr H (U.2.2.2.1 100 8) 100, vp_in (nI ((s * W) + 0)) (mu_n H (mu_p (U.2.2.2.1 100 8)))]) rfl (show (mu_isr H (U.2.2.2.1 100 8) 100) ∧ (vp_in (nI ((s * W) + 0)) (mu_n H (mu_p (U.2.2.2.1 100 8)))) from ⟨((h.iA e rfl rfl (show U.2.2.2.1 100 8 = (U.2.2.2.1 100 8) from rfl))).r, (h.vA e rfl rfl (show U.2.2.2.1 100 8 = (U.2.2.2.1 100 8) from rfl) (show (U.2.2.1 100 8).1 = (U.2.2.1 100 8).1 from rfl) (by omega) (by omega))⟩) ?_
    rw [(show (mu_i H (mu_p (U.2.2.2.1 100 8)) (nI ((s * W) + 0)).toNatClampNeg) = ((U.2.2.1 100 8).2 (s * W)) from ((congrArg (mu_i H (mu_p (U.2.2.2.1 100 8))) (nI_clamp (by omega))).trans (h.gA e rfl rfl (show U.2.2.2.1 100 8 = (U.2.2.2.1 100 8) from rfl))).trans ((congrArg (fun z => z.2 ((s * W) + 0)) (show U.2.2.1 100 8 = (U.2.2.1 100 8) from rfl)).trans rfl))]
    exact mw_of (fun _ => mu_ret rfl trivial ⟨_, _, rfl, (if_pos h1).symm, rfl⟩)
  · -- 19: not ((U.2.2.1 100 12).2 s) = 0
    refine mw_go mu_g216 (k := 3) (f1 := (25, [(0, .inr (.inr (some 100))), (1, .inl (nI s)), (2, .inl (nI k))], [.inl ((nI (s * W)) + (nI k)), .inr (.inr (U.2.2.2.1 100 8))], H)) (C := []) rfl trivial ?_
    rw [(show ((nI (s * W)) + (nI k)) = (nI ((s * W) + k)) from (nI_add (s * W) k))]
    refine mw_go mu_g216 (k := 1) (f1 := (26, [(0, .inr (.inr (some 100))), (1, .inl (nI s)), (2, .inl (nI k))], [.inl (mu_i H (mu_p (U.2.2.2.1 100 8)) (nI ((s * W) + k)).toNatClampNeg)], H)) (C := [mu_isr H (U.2.2.2.1 100 8) 100, vp_in (nI ((s * W) + k)) (mu_n H (mu_p (U.2.2.2.1 100 8)))]) rfl (show (mu_isr H (U.2.2.2.1 100 8) 100) ∧ (vp_in (nI ((s * W) + k)) (mu_n H (mu_p (U.2.2.2.1 100 8)))) from ⟨((h.iA e rfl rfl (show U.2.2.2.1 100 8 = (U.2.2.2.1 100 8) from rfl))).r, (h.vA e rfl rfl (show U.2.2.2.1 100 8 = (U.2.2.2.1 100 8) from rfl) (show (U.2.2.1 100 8).1 = (U.2.2.1 100 8).1 from rfl) (by omega) (by omega))⟩) ?_
    rw [(show (mu_i H (mu_p (U.2.2.2.1 100 8)) (nI ((s * W) + k)).toNatClampNeg) = ((U.2.2.1 100 8).2 ((s * W) + k)) from ((congrArg (mu_i H (mu_p (U.2.2.2.1 100 8))) (nI_clamp (by omega))).trans (h.gA e rfl rfl (show U.2.2.2.1 100 8 = (U.2.2.2.1 100 8) from rfl))).trans ((congrArg (fun z => z.2 ((s * W) + k)) (show U.2.2.1 100 8 = (U.2.2.1 100 8) from rfl)).trans rfl))]
    exact mw_of (fun _ => mu_ret rfl trivial ⟨_, _, rfl, (if_neg h1).symm, rfl⟩)
/-- PathProver$Machine.bring(I[I)V -/
abbrev mu_m217 : ev_M := (3, none, [], ev_b217)
theorem mu_g217 : mu_good mu_m217 := mu_goodk ev_k217
theorem mc_left (h : um m H) (e : ud m H = U) (hx : mx U A W l) (hs : s < A) : mu_TV (mu_D (d + 3)) 217 [.inr (.inr (some 100)), .inl (nI s), .inr (.inr (some 107))] H (fun H1 => um m H1 ∧ ur m C H H1 ∧ ud m H1 = upF U 100 9 0 (fun k => cv U W s k) l) := by
  obtain ⟨hW, hl, hl1, hlW, hW2, hA8, c8, hA12, c12⟩ := hx
  have hb := mul_in (W := W) hs
  refine mu_meth (M := mu_m217) rfl rfl ?_
  refine mw_ht (mu_fn_of (show [0, 1, 2].Nodup by decide)) ?_
  refine mw_go mu_g217 (k := 2) (f1 := (4, [(0, .inr (.inr (some 100))), (1, .inl (nI s)), (2, .inr (.inr (some 107)))], [.inr (.inr (mu_r H 100 12))], H)) (C := [mu_is H (some 100) 5]) rfl (show mu_is H (some 100) 5 from (h.1.1.is rfl)) ?_
  rw [(show mu_r H 100 12 = (U.2.2.2.1 100 12) from (ud_q (m := m) (P := 100) (j := 12) e rfl))]
  refine mw_go mu_g217 (k := 2) (f1 := (6, [(0, .inr (.inr (some 100))), (1, .inl (nI s)), (2, .inr (.inr (some 107)))], [.inl (mu_i H (mu_p (U.2.2.2.1 100 12)) (nI s).toNatClampNeg)], H)) (C := [mu_isr H (U.2.2.2.1 100 12) 100, vp_in (nI s) (mu_n H (mu_p (U.2.2.2.1 100 12)))]) rfl (show (mu_isr H (U.2.2.2.1 100 12) 100) ∧ (vp_in (nI s) (mu_n H (mu_p (U.2.2.2.1 100 12)))) from ⟨((h.iA e rfl rfl (show U.2.2.2.1 100 12 = (U.2.2.2.1 100 12) from rfl))).r, (h.vA e rfl rfl (show U.2.2.2.1 100 12 = (U.2.2.2.1 100 12) from rfl) (show (U.2.2.1 100 12).1 = (U.2.2.1 100 12).1 from rfl) (by omega) (by omega))⟩) ?_
  rw [(show (mu_i H (mu_p (U.2.2.2.1 100 12)) (nI s).toNatClampNeg) = ((U.2.2.1 100 12).2 s) from ((congrArg (mu_i H (mu_p (U.2.2.2.1 100 12))) (nI_clamp (by omega))).trans (h.gA e rfl rfl (show U.2.2.2.1 100 12 = (U.2.2.2.1 100 12) from rfl))).trans ((congrArg (fun z => z.2 s) (show U.2.2.1 100 12 = (U.2.2.1 100 12) from rfl)).trans rfl))]
  refine mw_if (P := ((U.2.2.1 100 12).2 s) = 0) (a := 31) (b := 9) (fun _ => rfl) trivial (fun h1 => ?_) (fun h1 => ?_)
  · -- 31: ((U.2.2.1 100 12).2 s) = 0
    refine mw_go mu_g217 (k := 4) (f1 := (37, [(0, .inr (.inr (some 100))), (1, .inl (nI s)), (2, .inr (.inr (some 107)))], [.inl (mu_i H 100 18), .inl (0 : Int32), .inr (.inr (some 107))], H)) (C := [mu_is H (some 100) 5]) rfl (show mu_is H (some 100) 5 from (h.1.1.is rfl)) ?_
    rw [(show mu_i H 100 18 = (nI l) from (ud_i (m := m) (P := 100) (j := 18) e rfl).trans hl)]
    refine mw_go mu_g217 (k := 2) (f1 := (41, [(0, .inr (.inr (some 100))), (1, .inl (nI s)), (2, .inr (.inr (some 107)))], [.inr (.inr (mu_r H 100 8)), .inl (nI l), .inl (0 : Int32), .inr (.inr (some 107))], H)) (C := [mu_is H (some 100) 5]) rfl (show mu_is H (some 100) 5 from (h.1.1.is rfl)) ?_
    rw [(show mu_r H 100 8 = (U.2.2.2.1 100 8) from (ud_q (m := m) (P := 100) (j := 8) e rfl))]
    refine mw_go mu_g217 (k := 3) (f1 := (46, [(0, .inr (.inr (some 100))), (1, .inl (nI s)), (2, .inr (.inr (some 107)))], [.inl (mu_i H 100 17), .inl (nI s), .inr (.inr (U.2.2.2.1 100 8)), .inl (nI l), .inl (0 : Int32), .inr (.inr (some 107))], H)) (C := [mu_is H (some 100) 5]) rfl (show mu_is H (some 100) 5 from (h.1.1.is rfl)) ?_
    rw [(show mu_i H 100 17 = (nI W) from (ud_i (m := m) (P := 100) (j := 17) e rfl).trans hW)]
    refine mw_go mu_g217 (k := 1) (f1 := (47, [(0, .inr (.inr (some 100))), (1, .inl (nI s)), (2, .inr (.inr (some 107)))], [.inl ((nI s) * (nI W)), .inr (.inr (U.2.2.2.1 100 8)), .inl (nI l), .inl (0 : Int32), .inr (.inr (some 107))], H)) (C := []) rfl trivial ?_
    rw [(show ((nI s) * (nI W)) = (nI (s * W)) from (nI_mul (a := s) (b := W)))]
    refine mw_go mu_g217 (k := 1) (f1 := (48, [(0, .inr (.inr (some 100))), (1, .inl (nI s)), (2, .inr (.inr (some 107)))], [.inl (mu_i H (mu_p (U.2.2.2.1 100 8)) (nI (s * W)).toNatClampNeg), .inl (nI l), .inl (0 : Int32), .inr (.inr (some 107))], H)) (C := [mu_isr H (U.2.2.2.1 100 8) 100, vp_in (nI (s * W)) (mu_n H (mu_p (U.2.2.2.1 100 8)))]) rfl (show (mu_isr H (U.2.2.2.1 100 8) 100) ∧ (vp_in (nI (s * W)) (mu_n H (mu_p (U.2.2.2.1 100 8)))) from ⟨((h.iA e rfl rfl (show U.2.2.2.1 100 8 = (U.2.2.2.1 100 8) from rfl))).r, (h.vA e rfl rfl (show U.2.2.2.1 100 8 = (U.2.2.2.1 100 8) from rfl) (show (U.2.2.1 100 8).1 = (U.2.2.1 100 8).1 from rfl) (by omega) (by omega))⟩) ?_
    rw [(show (mu_i H (mu_p (U.2.2.2.1 100 8)) (nI (s * W)).toNatClampNeg) = ((U.2.2.1 100 8).2 (s * W)) from ((congrArg (mu_i H (mu_p (U.2.2.2.1 100 8))) (nI_clamp (by omega))).trans (h.gA e rfl rfl (show U.2.2.2.1 100 8 = (U.2.2.2.1 100 8) from rfl))).trans ((congrArg (fun z => z.2 (s * W)) (show U.2.2.1 100 8 = (U.2.2.1 100 8) from rfl)).trans rfl))]
    refine mw_cV (fun _ => rfl) trivial ((ar_fillR_ok (d := d) (v := ((U.2.2.1 100 8).2 (s * W))) (h.iA e rfl rfl ((ud_q (m := m) (P := 100) (j := 9) e rfl).symm.trans (h.1.1.r (p := 100) (j := 9) (q := 107) rfl))) (show 0 ≤ l by omega) (by rw [show mu_n H (mu_p (some 107)) = 1024 from (h.1.1.a (p := 107) (x := (100, 1024)) rfl).2]; omega) (by rw [show mu_n H (mu_p (some 107)) = 1024 from (h.1.1.a (p := 107) (x := (100, 1024)) rfl).2]; omega)).imp (fun Hx qx => show um m Hx ∧ ur m C H Hx ∧ ud m Hx = (upF U 100 9 0 (fun _ => ((U.2.2.1 100 8).2 (s * W))) (l - 0)) by rw [qx]; exact h.fA (C := C) e rfl rfl ((ud_q (m := m) (P := 100) (j := 9) e rfl).symm.trans (h.1.1.r (p := 100) (j := 9) (q := 107) rfl)))) (fun Q2 q2 => ?_)
    obtain ⟨u2, r2, d2⟩ := q2
    have ht2 : ur m C H Q2 := (ur.refl m C H).trans r2
    exact mw_of (fun _ => mu_ret rfl trivial ⟨Q2, rfl, u2, ht2, (by rw [d2]; exact upF_to rfl (funext fun i => (if_pos h1).symm))⟩)
  · -- 9: not ((U.2.2.1 100 12).2 s) = 0
    refine mw_go mu_g217 (k := 2) (f1 := (13, [(0, .inr (.inr (some 100))), (1, .inl (nI s)), (2, .inr (.inr (some 107)))], [.inr (.inr (mu_r H 100 8))], H)) (C := [mu_is H (some 100) 5]) rfl (show mu_is H (some 100) 5 from (h.1.1.is rfl)) ?_
    rw [(show mu_r H 100 8 = (U.2.2.2.1 100 8) from (ud_q (m := m) (P := 100) (j := 8) e rfl))]
    refine mw_go mu_g217 (k := 3) (f1 := (18, [(0, .inr (.inr (some 100))), (1, .inl (nI s)), (2, .inr (.inr (some 107)))], [.inl (mu_i H 100 17), .inl (nI s), .inr (.inr (U.2.2.2.1 100 8))], H)) (C := [mu_is H (some 100) 5]) rfl (show mu_is H (some 100) 5 from (h.1.1.is rfl)) ?_
    rw [(show mu_i H 100 17 = (nI W) from (ud_i (m := m) (P := 100) (j := 17) e rfl).trans hW)]
    refine mw_go mu_g217 (k := 1) (f1 := (19, [(0, .inr (.inr (some 100))), (1, .inl (nI s)), (2, .inr (.inr (some 107)))], [.inl ((nI s) * (nI W)), .inr (.inr (U.2.2.2.1 100 8))], H)) (C := []) rfl trivial ?_
    rw [(show ((nI s) * (nI W)) = (nI (s * W)) from (nI_mul (a := s) (b := W)))]
    refine mw_go mu_g217 (k := 4) (f1 := (25, [(0, .inr (.inr (some 100))), (1, .inl (nI s)), (2, .inr (.inr (some 107)))], [.inl (mu_i H 100 18), .inl (0 : Int32), .inr (.inr (some 107)), .inl (nI (s * W)), .inr (.inr (U.2.2.2.1 100 8))], H)) (C := [mu_is H (some 100) 5]) rfl (show mu_is H (some 100) 5 from (h.1.1.is rfl)) ?_
    rw [(show mu_i H 100 18 = (nI l) from (ud_i (m := m) (P := 100) (j := 18) e rfl).trans hl)]
    refine mw_copyI (t := 0) rfl (show mu_is H (U.2.2.2.1 100 8) 100 from (h.iA e rfl rfl (show U.2.2.2.1 100 8 = (U.2.2.2.1 100 8) from rfl))) (show mu_is H (some 107) 100 from (h.iA e rfl rfl ((ud_q (m := m) (P := 100) (j := 9) e rfl).symm.trans (h.1.1.r (p := 100) (j := 9) (q := 107) rfl)))) (by decide) (nI_pos (by omega)) (nI_pos (by omega)) (nI_pos (by omega)) (by rw [show mu_n H (mu_p (U.2.2.2.1 100 8)) = (U.2.2.1 100 8).1 from (h.nA e rfl rfl (show U.2.2.2.1 100 8 = (U.2.2.2.1 100 8) from rfl) (show (U.2.2.1 100 8).1 = (U.2.2.1 100 8).1 from rfl)), nI_clamp (by omega), nI_clamp (by omega)]; omega) (by rw [show mu_n H (mu_p (some 107)) = 1024 from (h.1.1.a (p := 107) (x := (100, 1024)) rfl).2, nI_clamp (by omega), nI_clamp (by omega)]; omega) (fun z => by cases z) (by decide) ?_
    rw [show (nI (s * W)).toNatClampNeg = s * W from nI_clamp (by omega), show (0 : Int32).toNatClampNeg = 0 from nI_clamp (by omega), show (nI l).toNatClampNeg = l from nI_clamp (by omega)]
    show mu_W _ _ (28, [(0, .inr (.inr (some 100))), (1, .inl (nI s)), (2, .inr (.inr (some 107)))], [], (mu_cpi H (mu_p (U.2.2.2.1 100 8)) (s * W) 107 0 l)) _
    obtain ⟨u3, r3, d3⟩ : um m (mu_cpi H (mu_p (U.2.2.2.1 100 8)) (s * W) 107 0 l) ∧ ur m C H (mu_cpi H (mu_p (U.2.2.2.1 100 8)) (s * W) 107 0 l) ∧ ud m (mu_cpi H (mu_p (U.2.2.2.1 100 8)) (s * W) 107 0 l) = (upF U 100 9 0 (fun i => (U.2.2.1 100 8).2 ((s * W) + i)) l) := h.cA (C := C) e rfl rfl (show U.2.2.2.1 100 8 = (U.2.2.2.1 100 8) from rfl) rfl rfl ((ud_q (m := m) (P := 100) (j := 9) e rfl).symm.trans (h.1.1.r (p := 100) (j := 9) (q := 107) rfl))
    generalize (mu_cpi H (mu_p (U.2.2.2.1 100 8)) (s * W) 107 0 l) = Q3 at u3 r3 d3 ⊢
    have ht3 : ur m C H Q3 := (ur.refl m C H).trans r3
    refine mw_go mu_g217 (k := 1) (f1 := (51, [(0, .inr (.inr (some 100))), (1, .inl (nI s)), (2, .inr (.inr (some 107)))], [], Q3)) (C := []) rfl trivial ?_
    exact mw_of (fun _ => mu_ret rfl trivial ⟨Q3, rfl, u3, ht3, (by rw [d3]; exact upF_to rfl (funext fun i => (if_neg h1).symm))⟩)
theorem mc_right (h : um m H) (e : ud m H = U) (hx : mx U A W l) (hs : s < A) : mu_TV (mu_D (d + 3)) 217 [.inr (.inr (some 100)), .inl (nI s), .inr (.inr (some 108))] H (fun H1 => um m H1 ∧ ur m C H H1 ∧ ud m H1 = upF U 100 10 0 (fun k => cv U W s k) l) := by
  obtain ⟨hW, hl, hl1, hlW, hW2, hA8, c8, hA12, c12⟩ := hx
  have hb := mul_in (W := W) hs
  refine mu_meth (M := mu_m217) rfl rfl ?_
  refine mw_ht (mu_fn_of (show [0, 1, 2].Nodup by decide)) ?_
  refine mw_go mu_g217 (k := 2) (f1 := (4, [(0, .inr (.inr (some 100))), (1, .inl (nI s)), (2, .inr (.inr (some 108)))], [.inr (.inr (mu_r H 100 12))], H)) (C := [mu_is H (some 100) 5]) rfl (show mu_is H (some 100) 5 from (h.1.1.is rfl)) ?_
  rw [(show mu_r H 100 12 = (U.2.2.2.1 100 12) from (ud_q (m := m) (P := 100) (j := 12) e rfl))]
  refine mw_go mu_g217 (k := 2) (f1 := (6, [(0, .inr (.inr (some 100))), (1, .inl (nI s)), (2, .inr (.inr (some 108)))], [.inl (mu_i H (mu_p (U.2.2.2.1 100 12)) (nI s).toNatClampNeg)], H)) (C := [mu_isr H (U.2.2.2.1 100 12) 100, vp_in (nI s) (mu_n H (mu_p (U.2.2.2.1 100 12)))]) rfl (show (mu_isr H (U.2.2.2.1 100 12) 100) ∧ (vp_in (nI s) (mu_n H (mu_p (U.2.2.2.1 100 12)))) from ⟨((h.iA e rfl rfl (show U.2.2.2.1 100 12 = (U.2.2.2.1 100 12) from rfl))).r, (h.vA e rfl rfl (show U.2.2.2.1 100 12 = (U.2.2.2.1 100 12) from rfl) (show (U.2.2.1 100 12).1 = (U.2.2.1 100 12).1 from rfl) (by omega) (by omega))⟩) ?_
  rw [(show (mu_i H (mu_p (U.2.2.2.1 100 12)) (nI s).toNatClampNeg) = ((U.2.2.1 100 12).2 s) from ((congrArg (mu_i H (mu_p (U.2.2.2.1 100 12))) (nI_clamp (by omega))).trans (h.gA e rfl rfl (show U.2.2.2.1 100 12 = (U.2.2.2.1 100 12) from rfl))).trans ((congrArg (fun z => z.2 s) (show U.2.2.1 100 12 = (U.2.2.1 100 12) from rfl)).trans rfl))]
  refine mw_if (P := ((U.2.2.1 100 12).2 s) = 0) (a := 31) (b := 9) (fun _ => rfl) trivial (fun h1 => ?_) (fun h1 => ?_)
  · -- 31: ((U.2.2.1 100 12).2 s) = 0
    refine mw_go mu_g217 (k := 4) (f1 := (37, [(0, .inr (.inr (some 100))), (1, .inl (nI s)), (2, .inr (.inr (some 108)))], [.inl (mu_i H 100 18), .inl (0 : Int32), .inr (.inr (some 108))], H)) (C := [mu_is H (some 100) 5]) rfl (show mu_is H (some 100) 5 from (h.1.1.is rfl)) ?_
    rw [(show mu_i H 100 18 = (nI l) from (ud_i (m := m) (P := 100) (j := 18) e rfl).trans hl)]
    refine mw_go mu_g217 (k := 2) (f1 := (41, [(0, .inr (.inr (some 100))), (1, .inl (nI s)), (2, .inr (.inr (some 108)))], [.inr (.inr (mu_r H 100 8)), .inl (nI l), .inl (0 : Int32), .inr (.inr (some 108))], H)) (C := [mu_is H (some 100) 5]) rfl (show mu_is H (some 100) 5 from (h.1.1.is rfl)) ?_
    rw [(show mu_r H 100 8 = (U.2.2.2.1 100 8) from (ud_q (m := m) (P := 100) (j := 8) e rfl))]
    refine mw_go mu_g217 (k := 3) (f1 := (46, [(0, .inr (.inr (some 100))), (1, .inl (nI s)), (2, .inr (.inr (some 108)))], [.inl (mu_i H 100 17), .inl (nI s), .inr (.inr (U.2.2.2.1 100 8)), .inl (nI l), .inl (0 : Int32), .inr (.inr (some 108))], H)) (C := [mu_is H (some 100) 5]) rfl (show mu_is H (some 100) 5 from (h.1.1.is rfl)) ?_
    rw [(show mu_i H 100 17 = (nI W) from (ud_i (m := m) (P := 100) (j := 17) e rfl).trans hW)]
    refine mw_go mu_g217 (k := 1) (f1 := (47, [(0, .inr (.inr (some 100))), (1, .inl (nI s)), (2, .inr (.inr (some 108)))], [.inl ((nI s) * (nI W)), .inr (.inr (U.2.2.2.1 100 8)), .inl (nI l), .inl (0 : Int32), .inr (.inr (some 108))], H)) (C := []) rfl trivial ?_
    rw [(show ((nI s) * (nI W)) = (nI (s * W)) from (nI_mul (a := s) (b := W)))]
    refine mw_go mu_g217 (k := 1) (f1 := (48, [(0, .inr (.inr (some 100))), (1, .inl (nI s)), (2, .inr (.inr (some 108)))], [.inl (mu_i H (mu_p (U.2.2.2.1 100 8)) (nI (s * W)).toNatClampNeg), .inl (nI l), .inl (0 : Int32), .inr (.inr (some 108))], H)) (C := [mu_isr H (U.2.2.2.1 100 8) 100, vp_in (nI (s * W)) (mu_n H (mu_p (U.2.2.2.1 100 8)))]) rfl (show (mu_isr H (U.2.2.2.1 100 8) 100) ∧ (vp_in (nI (s * W)) (mu_n H (mu_p (U.2.2.2.1 100 8)))) from ⟨((h.iA e rfl rfl (show U.2.2.2.1 100 8 = (U.2.2.2.1 100 8) from rfl))).r, (h.vA e rfl rfl (show U.2.2.2.1 100 8 = (U.2.2.2.1 100 8) from rfl) (show (U.2.2.1 100 8).1 = (U.2.2.1 100 8).1 from rfl) (by omega) (by omega))⟩) ?_
    rw [(show (mu_i H (mu_p (U.2.2.2.1 100 8)) (nI (s * W)).toNatClampNeg) = ((U.2.2.1 100 8).2 (s * W)) from ((congrArg (mu_i H (mu_p (U.2.2.2.1 100 8))) (nI_clamp (by omega))).trans (h.gA e rfl rfl (show U.2.2.2.1 100 8 = (U.2.2.2.1 100 8) from rfl))).trans ((congrArg (fun z => z.2 (s * W)) (show U.2.2.1 100 8 = (U.2.2.1 100 8) from rfl)).trans rfl))]
    refine mw_cV (fun _ => rfl) trivial ((ar_fillR_ok (d := d) (v := ((U.2.2.1 100 8).2 (s * W))) (h.iA e rfl rfl ((ud_q (m := m) (P := 100) (j := 10) e rfl).symm.trans (h.1.1.r (p := 100) (j := 10) (q := 108) rfl))) (show 0 ≤ l by omega) (by rw [show mu_n H (mu_p (some 108)) = 1024 from (h.1.1.a (p := 108) (x := (100, 1024)) rfl).2]; omega) (by rw [show mu_n H (mu_p (some 108)) = 1024 from (h.1.1.a (p := 108) (x := (100, 1024)) rfl).2]; omega)).imp (fun Hx qx => show um m Hx ∧ ur m C H Hx ∧ ud m Hx = (upF U 100 10 0 (fun _ => ((U.2.2.1 100 8).2 (s * W))) (l - 0)) by rw [qx]; exact h.fA (C := C) e rfl rfl ((ud_q (m := m) (P := 100) (j := 10) e rfl).symm.trans (h.1.1.r (p := 100) (j := 10) (q := 108) rfl)))) (fun Q2 q2 => ?_)
    obtain ⟨u2, r2, d2⟩ := q2
    have ht2 : ur m C H Q2 := (ur.refl m C H).trans r2
    exact mw_of (fun _ => mu_ret rfl trivial ⟨Q2, rfl, u2, ht2, (by rw [d2]; exact upF_to rfl (funext fun i => (if_pos h1).symm))⟩)
  · -- 9: not ((U.2.2.1 100 12).2 s) = 0
    refine mw_go mu_g217 (k := 2) (f1 := (13, [(0, .inr (.inr (some 100))), (1, .inl (nI s)), (2, .inr (.inr (some 108)))], [.inr (.inr (mu_r H 100 8))], H)) (C := [mu_is H (some 100) 5]) rfl (show mu_is H (some 100) 5 from (h.1.1.is rfl)) ?_
    rw [(show mu_r H 100 8 = (U.2.2.2.1 100 8) from (ud_q (m := m) (P := 100) (j := 8) e rfl))]
    refine mw_go mu_g217 (k := 3) (f1 := (18, [(0, .inr (.inr (some 100))), (1, .inl (nI s)), (2, .inr (.inr (some 108)))], [.inl (mu_i H 100 17), .inl (nI s), .inr (.inr (U.2.2.2.1 100 8))], H)) (C := [mu_is H (some 100) 5]) rfl (show mu_is H (some 100) 5 from (h.1.1.is rfl)) ?_
    rw [(show mu_i H 100 17 = (nI W) from (ud_i (m := m) (P := 100) (j := 17) e rfl).trans hW)]
    refine mw_go mu_g217 (k := 1) (f1 := (19, [(0, .inr (.inr (some 100))), (1, .inl (nI s)), (2, .inr (.inr (some 108)))], [.inl ((nI s) * (nI W)), .inr (.inr (U.2.2.2.1 100 8))], H)) (C := []) rfl trivial ?_
    rw [(show ((nI s) * (nI W)) = (nI (s * W)) from (nI_mul (a := s) (b := W)))]
    refine mw_go mu_g217 (k := 4) (f1 := (25, [(0, .inr (.inr (some 100))), (1, .inl (nI s)), (2, .inr (.inr (some 108)))], [.inl (mu_i H 100 18), .inl (0 : Int32), .inr (.inr (some 108)), .inl (nI (s * W)), .inr (.inr (U.2.2.2.1 100 8))], H)) (C := [mu_is H (some 100) 5]) rfl (show mu_is H (some 100) 5 from (h.1.1.is rfl)) ?_
    rw [(show mu_i H 100 18 = (nI l) from (ud_i (m := m) (P := 100) (j := 18) e rfl).trans hl)]
    refine mw_copyI (t := 0) rfl (show mu_is H (U.2.2.2.1 100 8) 100 from (h.iA e rfl rfl (show U.2.2.2.1 100 8 = (U.2.2.2.1 100 8) from rfl))) (show mu_is H (some 108) 100 from (h.iA e rfl rfl ((ud_q (m := m) (P := 100) (j := 10) e rfl).symm.trans (h.1.1.r (p := 100) (j := 10) (q := 108) rfl)))) (by decide) (nI_pos (by omega)) (nI_pos (by omega)) (nI_pos (by omega)) (by rw [show mu_n H (mu_p (U.2.2.2.1 100 8)) = (U.2.2.1 100 8).1 from (h.nA e rfl rfl (show U.2.2.2.1 100 8 = (U.2.2.2.1 100 8) from rfl) (show (U.2.2.1 100 8).1 = (U.2.2.1 100 8).1 from rfl)), nI_clamp (by omega), nI_clamp (by omega)]; omega) (by rw [show mu_n H (mu_p (some 108)) = 1024 from (h.1.1.a (p := 108) (x := (100, 1024)) rfl).2, nI_clamp (by omega), nI_clamp (by omega)]; omega) (fun z => by cases z) (by decide) ?_
    rw [show (nI (s * W)).toNatClampNeg = s * W from nI_clamp (by omega), show (0 : Int32).toNatClampNeg = 0 from nI_clamp (by omega), show (nI l).toNatClampNeg = l from nI_clamp (by omega)]
    show mu_W _ _ (28, [(0, .inr (.inr (some 100))), (1, .inl (nI s)), (2, .inr (.inr (some 108)))], [], (mu_cpi H (mu_p (U.2.2.2.1 100 8)) (s * W) 108 0 l)) _
    obtain ⟨u3, r3, d3⟩ : um m (mu_cpi H (mu_p (U.2.2.2.1 100 8)) (s * W) 108 0 l) ∧ ur m C H (mu_cpi H (mu_p (U.2.2.2.1 100 8)) (s * W) 108 0 l) ∧ ud m (mu_cpi H (mu_p (U.2.2.2.1 100 8)) (s * W) 108 0 l) = (upF U 100 10 0 (fun i => (U.2.2.1 100 8).2 ((s * W) + i)) l) := h.cA (C := C) e rfl rfl (show U.2.2.2.1 100 8 = (U.2.2.2.1 100 8) from rfl) rfl rfl ((ud_q (m := m) (P := 100) (j := 10) e rfl).symm.trans (h.1.1.r (p := 100) (j := 10) (q := 108) rfl))
    generalize (mu_cpi H (mu_p (U.2.2.2.1 100 8)) (s * W) 108 0 l) = Q3 at u3 r3 d3 ⊢
    have ht3 : ur m C H Q3 := (ur.refl m C H).trans r3
    refine mw_go mu_g217 (k := 1) (f1 := (51, [(0, .inr (.inr (some 100))), (1, .inl (nI s)), (2, .inr (.inr (some 108)))], [], Q3)) (C := []) rfl trivial ?_
    exact mw_of (fun _ => mu_ret rfl trivial ⟨Q3, rfl, u3, ht3, (by rw [d3]; exact upF_to rfl (funext fun i => (if_neg h1).symm))⟩)
/-- PathProver$Machine.copy(II)V -/
abbrev mu_m220 : ev_M := (3, none, [], ev_b220)
theorem mu_g220 : mu_good mu_m220 := mu_goodk ev_k220
theorem mc_copy (h : um m H) (e : ud m H = U) (hx : mx U A W l) (hs : s < A) (ht : t < A) : mu_TV (mu_D (d + 1)) 220 [.inr (.inr (some 100)), .inl (nI s), .inl (nI t)] H (fun H1 => um m H1 ∧ ur m C H H1 ∧ ud m H1 = cpU U W l s t) := by
  obtain ⟨hW, hl, hl1, hlW, hW2, hA8, c8, hA12, c12⟩ := hx
  have hb := mul_in (W := W) hs
  have hb2 := mul_in (W := W) ht
  refine mu_meth (M := mu_m220) rfl rfl ?_
  refine mw_ht (mu_fn_of (show [0, 1, 2].Nodup by decide)) ?_
  refine mw_go mu_g220 (k := 2) (f1 := (4, [(0, .inr (.inr (some 100))), (1, .inl (nI s)), (2, .inl (nI t))], [.inr (.inr (mu_r H 100 12))], H)) (C := [mu_is H (some 100) 5]) rfl (show mu_is H (some 100) 5 from (h.1.1.is rfl)) ?_
  rw [(show mu_r H 100 12 = (U.2.2.2.1 100 12) from (ud_q (m := m) (P := 100) (j := 12) e rfl))]
  refine mw_go mu_g220 (k := 3) (f1 := (9, [(0, .inr (.inr (some 100))), (1, .inl (nI s)), (2, .inl (nI t))], [.inr (.inr (mu_r H 100 12)), .inl (nI t), .inr (.inr (U.2.2.2.1 100 12))], H)) (C := [mu_is H (some 100) 5]) rfl (show mu_is H (some 100) 5 from (h.1.1.is rfl)) ?_
  rw [(show mu_r H 100 12 = (U.2.2.2.1 100 12) from (ud_q (m := m) (P := 100) (j := 12) e rfl))]
  refine mw_go mu_g220 (k := 2) (f1 := (11, [(0, .inr (.inr (some 100))), (1, .inl (nI s)), (2, .inl (nI t))], [.inl (mu_i H (mu_p (U.2.2.2.1 100 12)) (nI s).toNatClampNeg), .inl (nI t), .inr (.inr (U.2.2.2.1 100 12))], H)) (C := [mu_isr H (U.2.2.2.1 100 12) 100, vp_in (nI s) (mu_n H (mu_p (U.2.2.2.1 100 12)))]) rfl (show (mu_isr H (U.2.2.2.1 100 12) 100) ∧ (vp_in (nI s) (mu_n H (mu_p (U.2.2.2.1 100 12)))) from ⟨((h.iA e rfl rfl (show U.2.2.2.1 100 12 = (U.2.2.2.1 100 12) from rfl))).r, (h.vA e rfl rfl (show U.2.2.2.1 100 12 = (U.2.2.2.1 100 12) from rfl) (show (U.2.2.1 100 12).1 = (U.2.2.1 100 12).1 from rfl) (by omega) (by omega))⟩) ?_
  rw [(show (mu_i H (mu_p (U.2.2.2.1 100 12)) (nI s).toNatClampNeg) = ((U.2.2.1 100 12).2 s) from ((congrArg (mu_i H (mu_p (U.2.2.2.1 100 12))) (nI_clamp (by omega))).trans (h.gA e rfl rfl (show U.2.2.2.1 100 12 = (U.2.2.2.1 100 12) from rfl))).trans ((congrArg (fun z => z.2 s) (show U.2.2.1 100 12 = (U.2.2.1 100 12) from rfl)).trans rfl))]
  refine mw_go mu_g220 (k := 1) (f1 := (12, [(0, .inr (.inr (some 100))), (1, .inl (nI s)), (2, .inl (nI t))], [], (mu_si H (mu_p (U.2.2.2.1 100 12)) (nI t).toNatClampNeg ((U.2.2.1 100 12).2 s)))) (C := [mu_is H (U.2.2.2.1 100 12) 100, vp_in (nI t) (mu_n H (mu_p (U.2.2.2.1 100 12)))]) rfl (show (mu_is H (U.2.2.2.1 100 12) 100) ∧ (vp_in (nI t) (mu_n H (mu_p (U.2.2.2.1 100 12)))) from ⟨(h.iA e rfl rfl (show U.2.2.2.1 100 12 = (U.2.2.2.1 100 12) from rfl)), (h.vA e rfl rfl (show U.2.2.2.1 100 12 = (U.2.2.2.1 100 12) from rfl) (show (U.2.2.1 100 12).1 = (U.2.2.1 100 12).1 from rfl) (by omega) (by omega))⟩) ?_
  rw [show (nI t).toNatClampNeg = t from nI_clamp (by omega)]
  obtain ⟨u1, r1, d1⟩ : um m (mu_si H (mu_p (U.2.2.2.1 100 12)) t ((U.2.2.1 100 12).2 s)) ∧ ur m C H (mu_si H (mu_p (U.2.2.2.1 100 12)) t ((U.2.2.1 100 12).2 s)) ∧ ud m (mu_si H (mu_p (U.2.2.2.1 100 12)) t ((U.2.2.1 100 12).2 s)) = (upA U 100 12 t ((U.2.2.1 100 12).2 s)) := h.sA (C := C) e rfl rfl (show U.2.2.2.1 100 12 = (U.2.2.2.1 100 12) from rfl)
  generalize (mu_si H (mu_p (U.2.2.2.1 100 12)) t ((U.2.2.1 100 12).2 s)) = Q1 at u1 r1 d1 ⊢
  have ht1 : ur m C H Q1 := (ur.refl m C H).trans r1
  refine mw_go mu_g220 (k := 2) (f1 := (16, [(0, .inr (.inr (some 100))), (1, .inl (nI s)), (2, .inl (nI t))], [.inr (.inr (mu_r Q1 100 8))], Q1)) (C := [mu_is Q1 (some 100) 5]) rfl (show mu_is Q1 (some 100) 5 from (u1.1.1.is rfl)) ?_
  rw [(show mu_r Q1 100 8 = (U.2.2.2.1 100 8) from (ud_q (m := m) (P := 100) (j := 8) d1 rfl))]
  refine mw_go mu_g220 (k := 3) (f1 := (21, [(0, .inr (.inr (some 100))), (1, .inl (nI s)), (2, .inl (nI t))], [.inl (mu_i Q1 100 17), .inl (nI s), .inr (.inr (U.2.2.2.1 100 8))], Q1)) (C := [mu_is Q1 (some 100) 5]) rfl (show mu_is Q1 (some 100) 5 from (u1.1.1.is rfl)) ?_
  rw [(show mu_i Q1 100 17 = (nI W) from (ud_i (m := m) (P := 100) (j := 17) d1 rfl).trans hW)]
  refine mw_go mu_g220 (k := 1) (f1 := (22, [(0, .inr (.inr (some 100))), (1, .inl (nI s)), (2, .inl (nI t))], [.inl ((nI s) * (nI W)), .inr (.inr (U.2.2.2.1 100 8))], Q1)) (C := []) rfl trivial ?_
  rw [(show ((nI s) * (nI W)) = (nI (s * W)) from (nI_mul (a := s) (b := W)))]
  refine mw_go mu_g220 (k := 2) (f1 := (26, [(0, .inr (.inr (some 100))), (1, .inl (nI s)), (2, .inl (nI t))], [.inr (.inr (mu_r Q1 100 8)), .inl (nI (s * W)), .inr (.inr (U.2.2.2.1 100 8))], Q1)) (C := [mu_is Q1 (some 100) 5]) rfl (show mu_is Q1 (some 100) 5 from (u1.1.1.is rfl)) ?_
  rw [(show mu_r Q1 100 8 = (U.2.2.2.1 100 8) from (ud_q (m := m) (P := 100) (j := 8) d1 rfl))]
  refine mw_go mu_g220 (k := 3) (f1 := (31, [(0, .inr (.inr (some 100))), (1, .inl (nI s)), (2, .inl (nI t))], [.inl (mu_i Q1 100 17), .inl (nI t), .inr (.inr (U.2.2.2.1 100 8)), .inl (nI (s * W)), .inr (.inr (U.2.2.2.1 100 8))], Q1)) (C := [mu_is Q1 (some 100) 5]) rfl (show mu_is Q1 (some 100) 5 from (u1.1.1.is rfl)) ?_
  rw [(show mu_i Q1 100 17 = (nI W) from (ud_i (m := m) (P := 100) (j := 17) d1 rfl).trans hW)]
  refine mw_go mu_g220 (k := 1) (f1 := (32, [(0, .inr (.inr (some 100))), (1, .inl (nI s)), (2, .inl (nI t))], [.inl ((nI t) * (nI W)), .inr (.inr (U.2.2.2.1 100 8)), .inl (nI (s * W)), .inr (.inr (U.2.2.2.1 100 8))], Q1)) (C := []) rfl trivial ?_
  rw [(show ((nI t) * (nI W)) = (nI (t * W)) from (nI_mul (a := t) (b := W)))]
  refine mw_go mu_g220 (k := 2) (f1 := (36, [(0, .inr (.inr (some 100))), (1, .inl (nI s)), (2, .inl (nI t))], [.inr (.inr (mu_r Q1 100 12)), .inl (nI (t * W)), .inr (.inr (U.2.2.2.1 100 8)), .inl (nI (s * W)), .inr (.inr (U.2.2.2.1 100 8))], Q1)) (C := [mu_is Q1 (some 100) 5]) rfl (show mu_is Q1 (some 100) 5 from (u1.1.1.is rfl)) ?_
  rw [(show mu_r Q1 100 12 = (U.2.2.2.1 100 12) from (ud_q (m := m) (P := 100) (j := 12) d1 rfl))]
  refine mw_go mu_g220 (k := 2) (f1 := (38, [(0, .inr (.inr (some 100))), (1, .inl (nI s)), (2, .inl (nI t))], [.inl (mu_i Q1 (mu_p (U.2.2.2.1 100 12)) (nI s).toNatClampNeg), .inl (nI (t * W)), .inr (.inr (U.2.2.2.1 100 8)), .inl (nI (s * W)), .inr (.inr (U.2.2.2.1 100 8))], Q1)) (C := [mu_isr Q1 (U.2.2.2.1 100 12) 100, vp_in (nI s) (mu_n Q1 (mu_p (U.2.2.2.1 100 12)))]) rfl (show (mu_isr Q1 (U.2.2.2.1 100 12) 100) ∧ (vp_in (nI s) (mu_n Q1 (mu_p (U.2.2.2.1 100 12)))) from ⟨((u1.iA d1 rfl rfl (show (upA U 100 12 t ((U.2.2.1 100 12).2 s)).2.2.2.1 100 12 = (U.2.2.2.1 100 12) from rfl))).r, (u1.vA d1 rfl rfl (show (upA U 100 12 t ((U.2.2.1 100 12).2 s)).2.2.2.1 100 12 = (U.2.2.2.1 100 12) from rfl) (show ((upA U 100 12 t ((U.2.2.1 100 12).2 s)).2.2.1 100 12).1 = (U.2.2.1 100 12).1 from rfl) (by omega) (by omega))⟩) ?_
  rw [(show (mu_i Q1 (mu_p (U.2.2.2.1 100 12)) (nI s).toNatClampNeg) = ((U.2.2.1 100 12).2 s) from ((congrArg (mu_i Q1 (mu_p (U.2.2.2.1 100 12))) (nI_clamp (by omega))).trans (u1.gA d1 rfl rfl (show (upA U 100 12 t ((U.2.2.1 100 12).2 s)).2.2.2.1 100 12 = (U.2.2.2.1 100 12) from rfl))).trans ((congrArg (fun z => z.2 s) (show (upA U 100 12 t ((U.2.2.1 100 12).2 s)).2.2.1 100 12 = ((upA U 100 12 t ((U.2.2.1 100 12).2 s)).2.2.1 100 12) from rfl)).trans (show (if s = t then (U.2.2.1 100 12).2 s else (U.2.2.1 100 12).2 s) = (U.2.2.1 100 12).2 s from ite_self _)))]
  refine mw_if (P := ((U.2.2.1 100 12).2 s) = 0) (a := 48) (b := 41) (fun _ => rfl) trivial (fun h2 => ?_) (fun h2 => ?_)
  · -- 48: ((U.2.2.1 100 12).2 s) = 0
    refine mw_go mu_g220 (k := 1) (f1 := (49, [(0, .inr (.inr (some 100))), (1, .inl (nI s)), (2, .inl (nI t))], [.inl (1 : Int32), .inl (nI (t * W)), .inr (.inr (U.2.2.2.1 100 8)), .inl (nI (s * W)), .inr (.inr (U.2.2.2.1 100 8))], Q1)) (C := []) rfl trivial ?_
    refine mw_copyI (t := 0) rfl (show mu_is Q1 (U.2.2.2.1 100 8) 100 from (u1.iA d1 rfl rfl (show (upA U 100 12 t ((U.2.2.1 100 12).2 s)).2.2.2.1 100 8 = (U.2.2.2.1 100 8) from rfl))) (show mu_is Q1 (U.2.2.2.1 100 8) 100 from (u1.iA d1 rfl rfl (show (upA U 100 12 t ((U.2.2.1 100 12).2 s)).2.2.2.1 100 8 = (U.2.2.2.1 100 8) from rfl))) (by decide) (nI_pos (by omega)) (nI_pos (by omega)) (nI_pos (by omega)) (by rw [show mu_n Q1 (mu_p (U.2.2.2.1 100 8)) = (U.2.2.1 100 8).1 from (u1.nA d1 rfl rfl (show (upA U 100 12 t ((U.2.2.1 100 12).2 s)).2.2.2.1 100 8 = (U.2.2.2.1 100 8) from rfl) (show ((upA U 100 12 t ((U.2.2.1 100 12).2 s)).2.2.1 100 8).1 = (U.2.2.1 100 8).1 from rfl)), nI_clamp (by omega), nI_clamp (by omega)]; omega) (by rw [show mu_n Q1 (mu_p (U.2.2.2.1 100 8)) = (U.2.2.1 100 8).1 from (u1.nA d1 rfl rfl (show (upA U 100 12 t ((U.2.2.1 100 12).2 s)).2.2.2.1 100 8 = (U.2.2.2.1 100 8) from rfl) (show ((upA U 100 12 t ((U.2.2.1 100 12).2 s)).2.2.1 100 8).1 = (U.2.2.1 100 8).1 from rfl)), nI_clamp (by omega), nI_clamp (by omega)]; omega) (fun z => by cases z) (by decide) ?_
    rw [show (nI (s * W)).toNatClampNeg = s * W from nI_clamp (by omega), show (nI (t * W)).toNatClampNeg = t * W from nI_clamp (by omega), show (1 : Int32).toNatClampNeg = 1 from nI_clamp (by omega)]
    show mu_W _ _ (52, [(0, .inr (.inr (some 100))), (1, .inl (nI s)), (2, .inl (nI t))], [], (mu_cpi Q1 (mu_p (U.2.2.2.1 100 8)) (s * W) (mu_p (U.2.2.2.1 100 8)) (t * W) 1)) _
    obtain ⟨u3, r3, d3⟩ : um m (mu_cpi Q1 (mu_p (U.2.2.2.1 100 8)) (s * W) (mu_p (U.2.2.2.1 100 8)) (t * W) 1) ∧ ur m C Q1 (mu_cpi Q1 (mu_p (U.2.2.2.1 100 8)) (s * W) (mu_p (U.2.2.2.1 100 8)) (t * W) 1) ∧ ud m (mu_cpi Q1 (mu_p (U.2.2.2.1 100 8)) (s * W) (mu_p (U.2.2.2.1 100 8)) (t * W) 1) = (upF (upA U 100 12 t ((U.2.2.1 100 12).2 s)) 100 8 (t * W) (fun i => ((upA U 100 12 t ((U.2.2.1 100 12).2 s)).2.2.1 100 8).2 ((s * W) + i)) 1) := u1.cA (C := C) d1 rfl rfl (show (upA U 100 12 t ((U.2.2.1 100 12).2 s)).2.2.2.1 100 8 = (U.2.2.2.1 100 8) from rfl) rfl rfl (show (upA U 100 12 t ((U.2.2.1 100 12).2 s)).2.2.2.1 100 8 = (U.2.2.2.1 100 8) from rfl)
    generalize (mu_cpi Q1 (mu_p (U.2.2.2.1 100 8)) (s * W) (mu_p (U.2.2.2.1 100 8)) (t * W) 1) = Q3 at u3 r3 d3 ⊢
    have ht3 : ur m C H Q3 := ht1.trans r3
    exact mw_of (fun _ => mu_ret rfl trivial ⟨Q3, rfl, u3, ht3, (by rw [d3]; exact upF_to (if_pos h2).symm rfl)⟩)
  · -- 41: not ((U.2.2.1 100 12).2 s) = 0
    refine mw_go mu_g220 (k := 2) (f1 := (45, [(0, .inr (.inr (some 100))), (1, .inl (nI s)), (2, .inl (nI t))], [.inl (mu_i Q1 100 18), .inl (nI (t * W)), .inr (.inr (U.2.2.2.1 100 8)), .inl (nI (s * W)), .inr (.inr (U.2.2.2.1 100 8))], Q1)) (C := [mu_is Q1 (some 100) 5]) rfl (show mu_is Q1 (some 100) 5 from (u1.1.1.is rfl)) ?_
    rw [(show mu_i Q1 100 18 = (nI l) from (ud_i (m := m) (P := 100) (j := 18) d1 rfl).trans hl)]
    refine mw_go mu_g220 (k := 1) (f1 := (49, [(0, .inr (.inr (some 100))), (1, .inl (nI s)), (2, .inl (nI t))], [.inl (nI l), .inl (nI (t * W)), .inr (.inr (U.2.2.2.1 100 8)), .inl (nI (s * W)), .inr (.inr (U.2.2.2.1 100 8))], Q1)) (C := []) rfl trivial ?_
    refine mw_copyI (t := 0) rfl (show mu_is Q1 (U.2.2.2.1 100 8) 100 from (u1.iA d1 rfl rfl (show (upA U 100 12 t ((U.2.2.1 100 12).2 s)).2.2.2.1 100 8 = (U.2.2.2.1 100 8) from rfl))) (show mu_is Q1 (U.2.2.2.1 100 8) 100 from (u1.iA d1 rfl rfl (show (upA U 100 12 t ((U.2.2.1 100 12).2 s)).2.2.2.1 100 8 = (U.2.2.2.1 100 8) from rfl))) (by decide) (nI_pos (by omega)) (nI_pos (by omega)) (nI_pos (by omega)) (by rw [show mu_n Q1 (mu_p (U.2.2.2.1 100 8)) = (U.2.2.1 100 8).1 from (u1.nA d1 rfl rfl (show (upA U 100 12 t ((U.2.2.1 100 12).2 s)).2.2.2.1 100 8 = (U.2.2.2.1 100 8) from rfl) (show ((upA U 100 12 t ((U.2.2.1 100 12).2 s)).2.2.1 100 8).1 = (U.2.2.1 100 8).1 from rfl)), nI_clamp (by omega), nI_clamp (by omega)]; omega) (by rw [show mu_n Q1 (mu_p (U.2.2.2.1 100 8)) = (U.2.2.1 100 8).1 from (u1.nA d1 rfl rfl (show (upA U 100 12 t ((U.2.2.1 100 12).2 s)).2.2.2.1 100 8 = (U.2.2.2.1 100 8) from rfl) (show ((upA U 100 12 t ((U.2.2.1 100 12).2 s)).2.2.1 100 8).1 = (U.2.2.1 100 8).1 from rfl)), nI_clamp (by omega), nI_clamp (by omega)]; omega) (fun z => by cases z) (by decide) ?_
    rw [show (nI (s * W)).toNatClampNeg = s * W from nI_clamp (by omega), show (nI (t * W)).toNatClampNeg = t * W from nI_clamp (by omega), show (nI l).toNatClampNeg = l from nI_clamp (by omega)]
    show mu_W _ _ (52, [(0, .inr (.inr (some 100))), (1, .inl (nI s)), (2, .inl (nI t))], [], (mu_cpi Q1 (mu_p (U.2.2.2.1 100 8)) (s * W) (mu_p (U.2.2.2.1 100 8)) (t * W) l)) _
    obtain ⟨u4, r4, d4⟩ : um m (mu_cpi Q1 (mu_p (U.2.2.2.1 100 8)) (s * W) (mu_p (U.2.2.2.1 100 8)) (t * W) l) ∧ ur m C Q1 (mu_cpi Q1 (mu_p (U.2.2.2.1 100 8)) (s * W) (mu_p (U.2.2.2.1 100 8)) (t * W) l) ∧ ud m (mu_cpi Q1 (mu_p (U.2.2.2.1 100 8)) (s * W) (mu_p (U.2.2.2.1 100 8)) (t * W) l) = (upF (upA U 100 12 t ((U.2.2.1 100 12).2 s)) 100 8 (t * W) (fun i => ((upA U 100 12 t ((U.2.2.1 100 12).2 s)).2.2.1 100 8).2 ((s * W) + i)) l) := u1.cA (C := C) d1 rfl rfl (show (upA U 100 12 t ((U.2.2.1 100 12).2 s)).2.2.2.1 100 8 = (U.2.2.2.1 100 8) from rfl) rfl rfl (show (upA U 100 12 t ((U.2.2.1 100 12).2 s)).2.2.2.1 100 8 = (U.2.2.2.1 100 8) from rfl)
    generalize (mu_cpi Q1 (mu_p (U.2.2.2.1 100 8)) (s * W) (mu_p (U.2.2.2.1 100 8)) (t * W) l) = Q4 at u4 r4 d4 ⊢
    have ht4 : ur m C H Q4 := ht1.trans r4
    exact mw_of (fun _ => mu_ret rfl trivial ⟨Q4, rfl, u4, ht4, (by rw [d4]; exact upF_to (if_neg h2).symm rfl)⟩)
/-- PathProver$Machine.joinTruths(II)V -/
abbrev mu_m225 : ev_M := (6, none, [], ev_b225)
theorem mu_g225 : mu_good mu_m225 := mu_goodk ev_k225
theorem mc_truths (h : um m H) (e : ud m H = U) (hx : mx U A W l) {op : Int32} (ho : o + l ≤ (U.2.2.1 100 8).1) : mu_TV (mu_D (d + 1)) 225 [.inr (.inr (some 100)), .inl op, .inl (nI o)] H (fun H1 => um m H1 ∧ ur m C H H1 ∧ ud m H1 = upF U 100 8 o (fun k => jT op ((U.2.2.1 100 9).2 k) ((U.2.2.1 100 10).2 k)) l) := by
  obtain ⟨hW, hl, hl1, hlW, hW2, hA8, c8, hA12, c12⟩ := hx
  refine mu_meth (M := mu_m225) rfl rfl ?_
  refine mw_ht (mu_fn_of (show [0, 1, 2].Nodup by decide)) ?_
  refine mw_go mu_g225 (k := 1) (f1 := (1, [(0, .inr (.inr (some 100))), (1, .inl op), (2, .inl (nI o))], [.inl op], H)) (C := []) rfl trivial ?_
  refine mw_tsw2 rfl (by decide) (fun hy => ?_) ⟨fun z => ?_, fun z => ?_, fun z => ?_, fun z => ?_, fun z => ?_, trivial⟩
  · skip
    have e5 : ¬ op = (5 : Int32) := fun y => by rw [y] at hy; revert hy; decide
    have e6 : ¬ op = (6 : Int32) := fun y => by rw [y] at hy; revert hy; decide
    have e7 : ¬ op = (7 : Int32) := fun y => by rw [y] at hy; revert hy; decide
    have e8 : ¬ op = (8 : Int32) := fun y => by rw [y] at hy; revert hy; decide
    have e9 : ¬ op = (9 : Int32) := fun y => by rw [y] at hy; revert hy; decide
    refine mw_go mu_g225 (k := 2) (f1 := (195, [(0, .inr (.inr (some 100))), (1, .inl op), (2, .inl (nI o))], [.inl (4 : Int32), .inl op], H)) (C := []) rfl trivial ?_
    refine mw_if (P := op = (4 : Int32)) (a := 204) (b := 198) (fun _ => rfl) trivial (fun h1 => ?_) (fun h1 => ?_)
    · -- 204: op = (4 : Int32)
      refine mw_go mu_g225 (k := 5) (f1 := (213, [(4, .inl (0 : Int32)), (3, .inl (1 : Int32)), (0, .inr (.inr (some 100))), (1, .inl op), (2, .inl (nI o))], [], H)) (C := []) rfl trivial ?_
      show mu_W _ _ (213, [(4, .inl (nI 0)), (3, .inl (1 : Int32)), (0, .inr (.inr (some 100))), (1, .inl op), (2, .inl (nI o))], [], H) _
      refine mw_sub (L' := [(4, .inl (nI 0)), (0, .inr (.inr (some 100))), (1, .inl op), (2, .inl (nI o)), (3, .inl (1 : Int32))]) (by simp) ?_
      refine mw_down (α := Nat × mu_H) (fun zs => (213, [(4, .inl (nI zs.1)), (0, .inr (.inr (some 100))), (1, .inl op), (2, .inl (nI o)), (3, .inl (1 : Int32))], [], zs.2)) (fun zs => l - zs.1) (fun zs => um m zs.2 ∧ ur m C H zs.2 ∧ (ud m zs.2 = (upF U 100 8 o (fun i => ((((((U.2.2.1 100 9).2 i) ^^^ ((U.2.2.1 100 10).2 i)) ||| (-(((U.2.2.1 100 9).2 i) ^^^ ((U.2.2.1 100 10).2 i)))).toUInt32 >>> ((31 : Int32).toUInt32 &&& Int32.toUInt32 31)).toInt32 ^^^ (1 : Int32))) zs.1)) ∧ (zs.1 ≤ l)) (fun zs hze ihe => ?_) (0, H) ⟨h, (ur.refl m C H), (show ud m H = (upF U 100 8 o (fun i => ((((((U.2.2.1 100 9).2 i) ^^^ ((U.2.2.1 100 10).2 i)) ||| (-(((U.2.2.1 100 9).2 i) ^^^ ((U.2.2.1 100 10).2 i)))).toUInt32 >>> ((31 : Int32).toUInt32 &&& Int32.toUInt32 31)).toInt32 ^^^ (1 : Int32))) 0) from (by rw [e]; exact upF_zero.symm)), (show 0 ≤ l from (by omega))⟩
      obtain ⟨k, Hse⟩ := zs
      obtain ⟨ue, hte, de, hk⟩ := hze
      have ue : um m Hse := ue
      have hte : ur m C H Hse := hte
      have de : ud m Hse = (upF U 100 8 o (fun i => ((((((U.2.2.1 100 9).2 i) ^^^ ((U.2.2.1 100 10).2 i)) ||| (-(((U.2.2.1 100 9).2 i) ^^^ ((U.2.2.1 100 10).2 i)))).toUInt32 >>> ((31 : Int32).toUInt32 &&& Int32.toUInt32 31)).toInt32 ^^^ (1 : Int32))) k) := de
      have hk : k ≤ l := hk
      show mu_W _ _ (213, [(4, .inl (nI k)), (0, .inr (.inr (some 100))), (1, .inl op), (2, .inl (nI o)), (3, .inl (1 : Int32))], [], Hse) _
      refine mw_go mu_g225 (k := 3) (f1 := (219, [(4, .inl (nI k)), (0, .inr (.inr (some 100))), (1, .inl op), (2, .inl (nI o)), (3, .inl (1 : Int32))], [.inl (mu_i Hse 100 18), .inl (nI k)], Hse)) (C := [mu_is Hse (some 100) 5]) rfl (show mu_is Hse (some 100) 5 from (ue.1.1.is rfl)) ?_
      rw [(show mu_i Hse 100 18 = (nI l) from (ud_i (m := m) (P := 100) (j := 18) de rfl).trans hl)]
      refine mw_if (P := (nI k) < (nI l)) (a := 222) (b := 265) (fun _ => rfl) trivial (fun h2 => ?_) (fun h2 => ?_)
      · -- 222: (nI k) < (nI l)
        have nh2 : k < l := (nI_ltI (by omega) (by omega)).mp (show nI k < nI l from h2)
        refine mw_go mu_g225 (k := 2) (f1 := (226, [(4, .inl (nI k)), (0, .inr (.inr (some 100))), (1, .inl op), (2, .inl (nI o)), (3, .inl (1 : Int32))], [.inr (.inr (mu_r Hse 100 9))], Hse)) (C := [mu_is Hse (some 100) 5]) rfl (show mu_is Hse (some 100) 5 from (ue.1.1.is rfl)) ?_
        rw [(ue.1.1.r (p := 100) (j := 9) (q := 107) rfl)]
        refine mw_go mu_g225 (k := 2) (f1 := (229, [(4, .inl (nI k)), (0, .inr (.inr (some 100))), (1, .inl op), (2, .inl (nI o)), (3, .inl (1 : Int32))], [.inl (mu_i Hse 107 (nI k).toNatClampNeg)], Hse)) (C := [mu_isr Hse (some 107) 100, vp_in (nI k) (mu_n Hse 107)]) rfl (show (mu_isr Hse (some 107) 100) ∧ (vp_in (nI k) (mu_n Hse 107)) from ⟨((ue.iA de rfl rfl ((ud_q (m := m) (P := 100) (j := 9) de rfl).symm.trans (ue.1.1.r (p := 100) (j := 9) (q := 107) rfl)))).r, (by rw [show mu_n Hse 107 = 1024 from (ue.1.1.a (p := 107) (x := (100, 1024)) rfl).2]; exact vp_in_nI (by omega) (by decide))⟩) ?_
        rw [(show (mu_i Hse 107 (nI k).toNatClampNeg) = ((U.2.2.1 100 9).2 k) from ((congrArg (mu_i Hse 107) (nI_clamp (by omega))).trans (ue.gA de rfl rfl ((ud_q (m := m) (P := 100) (j := 9) de rfl).symm.trans (ue.1.1.r (p := 100) (j := 9) (q := 107) rfl)))).trans ((congrArg (fun z => z.2 k) (show (upF U 100 8 o (fun i => ((((((U.2.2.1 100 9).2 i) ^^^ ((U.2.2.1 100 10).2 i)) ||| (-(((U.2.2.1 100 9).2 i) ^^^ ((U.2.2.1 100 10).2 i)))).toUInt32 >>> ((31 : Int32).toUInt32 &&& Int32.toUInt32 31)).toInt32 ^^^ (1 : Int32))) k).2.2.1 100 9 = (U.2.2.1 100 9) from rfl)).trans rfl))]
        refine mw_go mu_g225 (k := 2) (f1 := (233, [(4, .inl (nI k)), (0, .inr (.inr (some 100))), (1, .inl op), (2, .inl (nI o)), (3, .inl (1 : Int32))], [.inr (.inr (mu_r Hse 100 10)), .inl ((U.2.2.1 100 9).2 k)], Hse)) (C := [mu_is Hse (some 100) 5]) rfl (show mu_is Hse (some 100) 5 from (ue.1.1.is rfl)) ?_
        rw [(ue.1.1.r (p := 100) (j := 10) (q := 108) rfl)]
        refine mw_go mu_g225 (k := 2) (f1 := (236, [(4, .inl (nI k)), (0, .inr (.inr (some 100))), (1, .inl op), (2, .inl (nI o)), (3, .inl (1 : Int32))], [.inl (mu_i Hse 108 (nI k).toNatClampNeg), .inl ((U.2.2.1 100 9).2 k)], Hse)) (C := [mu_isr Hse (some 108) 100, vp_in (nI k) (mu_n Hse 108)]) rfl (show (mu_isr Hse (some 108) 100) ∧ (vp_in (nI k) (mu_n Hse 108)) from ⟨((ue.iA de rfl rfl ((ud_q (m := m) (P := 100) (j := 10) de rfl).symm.trans (ue.1.1.r (p := 100) (j := 10) (q := 108) rfl)))).r, (by rw [show mu_n Hse 108 = 1024 from (ue.1.1.a (p := 108) (x := (100, 1024)) rfl).2]; exact vp_in_nI (by omega) (by decide))⟩) ?_
        rw [(show (mu_i Hse 108 (nI k).toNatClampNeg) = ((U.2.2.1 100 10).2 k) from ((congrArg (mu_i Hse 108) (nI_clamp (by omega))).trans (ue.gA de rfl rfl ((ud_q (m := m) (P := 100) (j := 10) de rfl).symm.trans (ue.1.1.r (p := 100) (j := 10) (q := 108) rfl)))).trans ((congrArg (fun z => z.2 k) (show (upF U 100 8 o (fun i => ((((((U.2.2.1 100 9).2 i) ^^^ ((U.2.2.1 100 10).2 i)) ||| (-(((U.2.2.1 100 9).2 i) ^^^ ((U.2.2.1 100 10).2 i)))).toUInt32 >>> ((31 : Int32).toUInt32 &&& Int32.toUInt32 31)).toInt32 ^^^ (1 : Int32))) k).2.2.1 100 10 = (U.2.2.1 100 10) from rfl)).trans rfl))]
        refine mw_go mu_g225 (k := 4) (f1 := (243, [(5, .inl (((U.2.2.1 100 9).2 k) ^^^ ((U.2.2.1 100 10).2 k))), (4, .inl (nI k)), (0, .inr (.inr (some 100))), (1, .inl op), (2, .inl (nI o)), (3, .inl (1 : Int32))], [.inr (.inr (mu_r Hse 100 8))], Hse)) (C := [mu_is Hse (some 100) 5]) rfl (show mu_is Hse (some 100) 5 from (ue.1.1.is rfl)) ?_
        rw [(show mu_r Hse 100 8 = (U.2.2.2.1 100 8) from (ud_q (m := m) (P := 100) (j := 8) de rfl))]
        refine mw_go mu_g225 (k := 3) (f1 := (247, [(5, .inl (((U.2.2.1 100 9).2 k) ^^^ ((U.2.2.1 100 10).2 k))), (4, .inl (nI k)), (0, .inr (.inr (some 100))), (1, .inl op), (2, .inl (nI o)), (3, .inl (1 : Int32))], [.inl ((nI o) + (nI k)), .inr (.inr (U.2.2.2.1 100 8))], Hse)) (C := []) rfl trivial ?_
        rw [(show ((nI o) + (nI k)) = (nI (o + k)) from (nI_add o k))]
        refine mw_go mu_g225 (k := 9) (f1 := (259, [(5, .inl (((U.2.2.1 100 9).2 k) ^^^ ((U.2.2.1 100 10).2 k))), (4, .inl (nI k)), (0, .inr (.inr (some 100))), (1, .inl op), (2, .inl (nI o)), (3, .inl (1 : Int32))], [], (mu_si Hse (mu_p (U.2.2.2.1 100 8)) (nI (o + k)).toNatClampNeg (((((((U.2.2.1 100 9).2 k) ^^^ ((U.2.2.1 100 10).2 k)) ||| (-(((U.2.2.1 100 9).2 k) ^^^ ((U.2.2.1 100 10).2 k)))).toUInt32 >>> ((31 : Int32).toUInt32 &&& Int32.toUInt32 31)).toInt32) ^^^ (1 : Int32))))) (C := [mu_is Hse (U.2.2.2.1 100 8) 100, vp_in (nI (o + k)) (mu_n Hse (mu_p (U.2.2.2.1 100 8)))]) rfl (show (mu_is Hse (U.2.2.2.1 100 8) 100) ∧ (vp_in (nI (o + k)) (mu_n Hse (mu_p (U.2.2.2.1 100 8)))) from ⟨(ue.iA de rfl rfl (show (upF U 100 8 o (fun i => ((((((U.2.2.1 100 9).2 i) ^^^ ((U.2.2.1 100 10).2 i)) ||| (-(((U.2.2.1 100 9).2 i) ^^^ ((U.2.2.1 100 10).2 i)))).toUInt32 >>> ((31 : Int32).toUInt32 &&& Int32.toUInt32 31)).toInt32 ^^^ (1 : Int32))) k).2.2.2.1 100 8 = (U.2.2.2.1 100 8) from rfl)), (ue.vA de rfl rfl (show (upF U 100 8 o (fun i => ((((((U.2.2.1 100 9).2 i) ^^^ ((U.2.2.1 100 10).2 i)) ||| (-(((U.2.2.1 100 9).2 i) ^^^ ((U.2.2.1 100 10).2 i)))).toUInt32 >>> ((31 : Int32).toUInt32 &&& Int32.toUInt32 31)).toInt32 ^^^ (1 : Int32))) k).2.2.2.1 100 8 = (U.2.2.2.1 100 8) from rfl) (show ((upF U 100 8 o (fun i => ((((((U.2.2.1 100 9).2 i) ^^^ ((U.2.2.1 100 10).2 i)) ||| (-(((U.2.2.1 100 9).2 i) ^^^ ((U.2.2.1 100 10).2 i)))).toUInt32 >>> ((31 : Int32).toUInt32 &&& Int32.toUInt32 31)).toInt32 ^^^ (1 : Int32))) k).2.2.1 100 8).1 = (U.2.2.1 100 8).1 from rfl) (by omega) (by omega))⟩) ?_
        rw [show (nI (o + k)).toNatClampNeg = o + k from nI_clamp (by omega)]
        obtain ⟨u3, r3, d3⟩ : um m (mu_si Hse (mu_p (U.2.2.2.1 100 8)) (o + k) (((((((U.2.2.1 100 9).2 k) ^^^ ((U.2.2.1 100 10).2 k)) ||| (-(((U.2.2.1 100 9).2 k) ^^^ ((U.2.2.1 100 10).2 k)))).toUInt32 >>> ((31 : Int32).toUInt32 &&& Int32.toUInt32 31)).toInt32) ^^^ (1 : Int32))) ∧ ur m C Hse (mu_si Hse (mu_p (U.2.2.2.1 100 8)) (o + k) (((((((U.2.2.1 100 9).2 k) ^^^ ((U.2.2.1 100 10).2 k)) ||| (-(((U.2.2.1 100 9).2 k) ^^^ ((U.2.2.1 100 10).2 k)))).toUInt32 >>> ((31 : Int32).toUInt32 &&& Int32.toUInt32 31)).toInt32) ^^^ (1 : Int32))) ∧ ud m (mu_si Hse (mu_p (U.2.2.2.1 100 8)) (o + k) (((((((U.2.2.1 100 9).2 k) ^^^ ((U.2.2.1 100 10).2 k)) ||| (-(((U.2.2.1 100 9).2 k) ^^^ ((U.2.2.1 100 10).2 k)))).toUInt32 >>> ((31 : Int32).toUInt32 &&& Int32.toUInt32 31)).toInt32) ^^^ (1 : Int32))) = (upA (upF U 100 8 o (fun i => ((((((U.2.2.1 100 9).2 i) ^^^ ((U.2.2.1 100 10).2 i)) ||| (-(((U.2.2.1 100 9).2 i) ^^^ ((U.2.2.1 100 10).2 i)))).toUInt32 >>> ((31 : Int32).toUInt32 &&& Int32.toUInt32 31)).toInt32 ^^^ (1 : Int32))) k) 100 8 (o + k) (((((((U.2.2.1 100 9).2 k) ^^^ ((U.2.2.1 100 10).2 k)) ||| (-(((U.2.2.1 100 9).2 k) ^^^ ((U.2.2.1 100 10).2 k)))).toUInt32 >>> ((31 : Int32).toUInt32 &&& Int32.toUInt32 31)).toInt32) ^^^ (1 : Int32))) := ue.sA (C := C) de rfl rfl (show (upF U 100 8 o (fun i => ((((((U.2.2.1 100 9).2 i) ^^^ ((U.2.2.1 100 10).2 i)) ||| (-(((U.2.2.1 100 9).2 i) ^^^ ((U.2.2.1 100 10).2 i)))).toUInt32 >>> ((31 : Int32).toUInt32 &&& Int32.toUInt32 31)).toInt32 ^^^ (1 : Int32))) k).2.2.2.1 100 8 = (U.2.2.2.1 100 8) from rfl)
        generalize (mu_si Hse (mu_p (U.2.2.2.1 100 8)) (o + k) (((((((U.2.2.1 100 9).2 k) ^^^ ((U.2.2.1 100 10).2 k)) ||| (-(((U.2.2.1 100 9).2 k) ^^^ ((U.2.2.1 100 10).2 k)))).toUInt32 >>> ((31 : Int32).toUInt32 &&& Int32.toUInt32 31)).toInt32) ^^^ (1 : Int32))) = Q3 at u3 r3 d3 ⊢
        have ht3 : ur m C H Q3 := hte.trans r3
        refine mw_go mu_g225 (k := 1) (f1 := (262, [(4, .inl ((nI k) + 1)), (5, .inl (((U.2.2.1 100 9).2 k) ^^^ ((U.2.2.1 100 10).2 k))), (0, .inr (.inr (some 100))), (1, .inl op), (2, .inl (nI o)), (3, .inl (1 : Int32))], [], Q3)) (C := []) rfl trivial ?_
        rw [(show ((nI k) + 1) = (nI (k + 1)) from (nI_add k 1))]
        refine mw_go mu_g225 (k := 1) (f1 := (213, [(4, .inl (nI (k + 1))), (5, .inl (((U.2.2.1 100 9).2 k) ^^^ ((U.2.2.1 100 10).2 k))), (0, .inr (.inr (some 100))), (1, .inl op), (2, .inl (nI o)), (3, .inl (1 : Int32))], [], Q3)) (C := []) rfl trivial ?_
        exact mw_sub (by simp) (ihe (k + 1, Q3) ⟨u3, ht3, (show ud m Q3 = (upF U 100 8 o (fun i => ((((((U.2.2.1 100 9).2 i) ^^^ ((U.2.2.1 100 10).2 i)) ||| (-(((U.2.2.1 100 9).2 i) ^^^ ((U.2.2.1 100 10).2 i)))).toUInt32 >>> ((31 : Int32).toUInt32 &&& Int32.toUInt32 31)).toInt32 ^^^ (1 : Int32))) (k + 1)) from (by rw [d3]; exact upF_next)), (show (k + 1) ≤ l from (by omega))⟩ (by show l - (k + 1) < l - k; omega))
      · -- 265: not (nI k) < (nI l)
        have nh2 : ¬ k < l := fun z => h2 (show nI k < nI l from (nI_ltI (by omega) (by omega)).mpr z)
        exact mw_of (fun _ => mu_ret rfl trivial ⟨Hse, rfl, ue, hte, (by rw [de]; exact upF_to (by omega) (funext fun i => by unfold jT; rw [if_neg e5, if_neg e6, if_neg e8, if_neg e9, if_pos (Or.inl h1)]; rfl))⟩)
    · -- 198: not op = (4 : Int32)
      refine mw_go mu_g225 (k := 2) (f1 := (201, [(0, .inr (.inr (some 100))), (1, .inl op), (2, .inl (nI o))], [.inl (16 : Int32), .inl op], H)) (C := []) rfl trivial ?_
      refine mw_if (P := op = (16 : Int32)) (a := 204) (b := 208) (fun _ => rfl) trivial (fun h4 => ?_) (fun h4 => ?_)
      · -- 204: op = (16 : Int32)
        refine mw_go mu_g225 (k := 5) (f1 := (213, [(4, .inl (0 : Int32)), (3, .inl (1 : Int32)), (0, .inr (.inr (some 100))), (1, .inl op), (2, .inl (nI o))], [], H)) (C := []) rfl trivial ?_
        show mu_W _ _ (213, [(4, .inl (nI 0)), (3, .inl (1 : Int32)), (0, .inr (.inr (some 100))), (1, .inl op), (2, .inl (nI o))], [], H) _
        refine mw_sub (L' := [(4, .inl (nI 0)), (0, .inr (.inr (some 100))), (1, .inl op), (2, .inl (nI o)), (3, .inl (1 : Int32))]) (by simp) ?_
        refine mw_down (α := Nat × mu_H) (fun zs => (213, [(4, .inl (nI zs.1)), (0, .inr (.inr (some 100))), (1, .inl op), (2, .inl (nI o)), (3, .inl (1 : Int32))], [], zs.2)) (fun zs => l - zs.1) (fun zs => um m zs.2 ∧ ur m C H zs.2 ∧ (ud m zs.2 = (upF U 100 8 o (fun i => ((((((U.2.2.1 100 9).2 i) ^^^ ((U.2.2.1 100 10).2 i)) ||| (-(((U.2.2.1 100 9).2 i) ^^^ ((U.2.2.1 100 10).2 i)))).toUInt32 >>> ((31 : Int32).toUInt32 &&& Int32.toUInt32 31)).toInt32 ^^^ (1 : Int32))) zs.1)) ∧ (zs.1 ≤ l)) (fun zs hze ihe => ?_) (0, H) ⟨h, (ur.refl m C H), (show ud m H = (upF U 100 8 o (fun i => ((((((U.2.2.1 100 9).2 i) ^^^ ((U.2.2.1 100 10).2 i)) ||| (-(((U.2.2.1 100 9).2 i) ^^^ ((U.2.2.1 100 10).2 i)))).toUInt32 >>> ((31 : Int32).toUInt32 &&& Int32.toUInt32 31)).toInt32 ^^^ (1 : Int32))) 0) from (by rw [e]; exact upF_zero.symm)), (show 0 ≤ l from (by omega))⟩
        obtain ⟨k, Hse⟩ := zs
        obtain ⟨ue, hte, de, hk⟩ := hze
        have ue : um m Hse := ue
        have hte : ur m C H Hse := hte
        have de : ud m Hse = (upF U 100 8 o (fun i => ((((((U.2.2.1 100 9).2 i) ^^^ ((U.2.2.1 100 10).2 i)) ||| (-(((U.2.2.1 100 9).2 i) ^^^ ((U.2.2.1 100 10).2 i)))).toUInt32 >>> ((31 : Int32).toUInt32 &&& Int32.toUInt32 31)).toInt32 ^^^ (1 : Int32))) k) := de
        have hk : k ≤ l := hk
        show mu_W _ _ (213, [(4, .inl (nI k)), (0, .inr (.inr (some 100))), (1, .inl op), (2, .inl (nI o)), (3, .inl (1 : Int32))], [], Hse) _
        refine mw_go mu_g225 (k := 3) (f1 := (219, [(4, .inl (nI k)), (0, .inr (.inr (some 100))), (1, .inl op), (2, .inl (nI o)), (3, .inl (1 : Int32))], [.inl (mu_i Hse 100 18), .inl (nI k)], Hse)) (C := [mu_is Hse (some 100) 5]) rfl (show mu_is Hse (some 100) 5 from (ue.1.1.is rfl)) ?_
        rw [(show mu_i Hse 100 18 = (nI l) from (ud_i (m := m) (P := 100) (j := 18) de rfl).trans hl)]
        refine mw_if (P := (nI k) < (nI l)) (a := 222) (b := 265) (fun _ => rfl) trivial (fun h5 => ?_) (fun h5 => ?_)
        · -- 222: (nI k) < (nI l)
          have nh5 : k < l := (nI_ltI (by omega) (by omega)).mp (show nI k < nI l from h5)
          refine mw_go mu_g225 (k := 2) (f1 := (226, [(4, .inl (nI k)), (0, .inr (.inr (some 100))), (1, .inl op), (2, .inl (nI o)), (3, .inl (1 : Int32))], [.inr (.inr (mu_r Hse 100 9))], Hse)) (C := [mu_is Hse (some 100) 5]) rfl (show mu_is Hse (some 100) 5 from (ue.1.1.is rfl)) ?_
          rw [(ue.1.1.r (p := 100) (j := 9) (q := 107) rfl)]
          refine mw_go mu_g225 (k := 2) (f1 := (229, [(4, .inl (nI k)), (0, .inr (.inr (some 100))), (1, .inl op), (2, .inl (nI o)), (3, .inl (1 : Int32))], [.inl (mu_i Hse 107 (nI k).toNatClampNeg)], Hse)) (C := [mu_isr Hse (some 107) 100, vp_in (nI k) (mu_n Hse 107)]) rfl (show (mu_isr Hse (some 107) 100) ∧ (vp_in (nI k) (mu_n Hse 107)) from ⟨((ue.iA de rfl rfl ((ud_q (m := m) (P := 100) (j := 9) de rfl).symm.trans (ue.1.1.r (p := 100) (j := 9) (q := 107) rfl)))).r, (by rw [show mu_n Hse 107 = 1024 from (ue.1.1.a (p := 107) (x := (100, 1024)) rfl).2]; exact vp_in_nI (by omega) (by decide))⟩) ?_
          rw [(show (mu_i Hse 107 (nI k).toNatClampNeg) = ((U.2.2.1 100 9).2 k) from ((congrArg (mu_i Hse 107) (nI_clamp (by omega))).trans (ue.gA de rfl rfl ((ud_q (m := m) (P := 100) (j := 9) de rfl).symm.trans (ue.1.1.r (p := 100) (j := 9) (q := 107) rfl)))).trans ((congrArg (fun z => z.2 k) (show (upF U 100 8 o (fun i => ((((((U.2.2.1 100 9).2 i) ^^^ ((U.2.2.1 100 10).2 i)) ||| (-(((U.2.2.1 100 9).2 i) ^^^ ((U.2.2.1 100 10).2 i)))).toUInt32 >>> ((31 : Int32).toUInt32 &&& Int32.toUInt32 31)).toInt32 ^^^ (1 : Int32))) k).2.2.1 100 9 = (U.2.2.1 100 9) from rfl)).trans rfl))]
          refine mw_go mu_g225 (k := 2) (f1 := (233, [(4, .inl (nI k)), (0, .inr (.inr (some 100))), (1, .inl op), (2, .inl (nI o)), (3, .inl (1 : Int32))], [.inr (.inr (mu_r Hse 100 10)), .inl ((U.2.2.1 100 9).2 k)], Hse)) (C := [mu_is Hse (some 100) 5]) rfl (show mu_is Hse (some 100) 5 from (ue.1.1.is rfl)) ?_
          rw [(ue.1.1.r (p := 100) (j := 10) (q := 108) rfl)]
          refine mw_go mu_g225 (k := 2) (f1 := (236, [(4, .inl (nI k)), (0, .inr (.inr (some 100))), (1, .inl op), (2, .inl (nI o)), (3, .inl (1 : Int32))], [.inl (mu_i Hse 108 (nI k).toNatClampNeg), .inl ((U.2.2.1 100 9).2 k)], Hse)) (C := [mu_isr Hse (some 108) 100, vp_in (nI k) (mu_n Hse 108)]) rfl (show (mu_isr Hse (some 108) 100) ∧ (vp_in (nI k) (mu_n Hse 108)) from ⟨((ue.iA de rfl rfl ((ud_q (m := m) (P := 100) (j := 10) de rfl).symm.trans (ue.1.1.r (p := 100) (j := 10) (q := 108) rfl)))).r, (by rw [show mu_n Hse 108 = 1024 from (ue.1.1.a (p := 108) (x := (100, 1024)) rfl).2]; exact vp_in_nI (by omega) (by decide))⟩) ?_
          rw [(show (mu_i Hse 108 (nI k).toNatClampNeg) = ((U.2.2.1 100 10).2 k) from ((congrArg (mu_i Hse 108) (nI_clamp (by omega))).trans (ue.gA de rfl rfl ((ud_q (m := m) (P := 100) (j := 10) de rfl).symm.trans (ue.1.1.r (p := 100) (j := 10) (q := 108) rfl)))).trans ((congrArg (fun z => z.2 k) (show (upF U 100 8 o (fun i => ((((((U.2.2.1 100 9).2 i) ^^^ ((U.2.2.1 100 10).2 i)) ||| (-(((U.2.2.1 100 9).2 i) ^^^ ((U.2.2.1 100 10).2 i)))).toUInt32 >>> ((31 : Int32).toUInt32 &&& Int32.toUInt32 31)).toInt32 ^^^ (1 : Int32))) k).2.2.1 100 10 = (U.2.2.1 100 10) from rfl)).trans rfl))]
          refine mw_go mu_g225 (k := 4) (f1 := (243, [(5, .inl (((U.2.2.1 100 9).2 k) ^^^ ((U.2.2.1 100 10).2 k))), (4, .inl (nI k)), (0, .inr (.inr (some 100))), (1, .inl op), (2, .inl (nI o)), (3, .inl (1 : Int32))], [.inr (.inr (mu_r Hse 100 8))], Hse)) (C := [mu_is Hse (some 100) 5]) rfl (show mu_is Hse (some 100) 5 from (ue.1.1.is rfl)) ?_
          rw [(show mu_r Hse 100 8 = (U.2.2.2.1 100 8) from (ud_q (m := m) (P := 100) (j := 8) de rfl))]
          refine mw_go mu_g225 (k := 3) (f1 := (247, [(5, .inl (((U.2.2.1 100 9).2 k) ^^^ ((U.2.2.1 100 10).2 k))), (4, .inl (nI k)), (0, .inr (.inr (some 100))), (1, .inl op), (2, .inl (nI o)), (3, .inl (1 : Int32))], [.inl ((nI o) + (nI k)), .inr (.inr (U.2.2.2.1 100 8))], Hse)) (C := []) rfl trivial ?_
          rw [(show ((nI o) + (nI k)) = (nI (o + k)) from (nI_add o k))]
          refine mw_go mu_g225 (k := 9) (f1 := (259, [(5, .inl (((U.2.2.1 100 9).2 k) ^^^ ((U.2.2.1 100 10).2 k))), (4, .inl (nI k)), (0, .inr (.inr (some 100))), (1, .inl op), (2, .inl (nI o)), (3, .inl (1 : Int32))], [], (mu_si Hse (mu_p (U.2.2.2.1 100 8)) (nI (o + k)).toNatClampNeg (((((((U.2.2.1 100 9).2 k) ^^^ ((U.2.2.1 100 10).2 k)) ||| (-(((U.2.2.1 100 9).2 k) ^^^ ((U.2.2.1 100 10).2 k)))).toUInt32 >>> ((31 : Int32).toUInt32 &&& Int32.toUInt32 31)).toInt32) ^^^ (1 : Int32))))) (C := [mu_is Hse (U.2.2.2.1 100 8) 100, vp_in (nI (o + k)) (mu_n Hse (mu_p (U.2.2.2.1 100 8)))]) rfl (show (mu_is Hse (U.2.2.2.1 100 8) 100) ∧ (vp_in (nI (o + k)) (mu_n Hse (mu_p (U.2.2.2.1 100 8)))) from ⟨(ue.iA de rfl rfl (show (upF U 100 8 o (fun i => ((((((U.2.2.1 100 9).2 i) ^^^ ((U.2.2.1 100 10).2 i)) ||| (-(((U.2.2.1 100 9).2 i) ^^^ ((U.2.2.1 100 10).2 i)))).toUInt32 >>> ((31 : Int32).toUInt32 &&& Int32.toUInt32 31)).toInt32 ^^^ (1 : Int32))) k).2.2.2.1 100 8 = (U.2.2.2.1 100 8) from rfl)), (ue.vA de rfl rfl (show (upF U 100 8 o (fun i => ((((((U.2.2.1 100 9).2 i) ^^^ ((U.2.2.1 100 10).2 i)) ||| (-(((U.2.2.1 100 9).2 i) ^^^ ((U.2.2.1 100 10).2 i)))).toUInt32 >>> ((31 : Int32).toUInt32 &&& Int32.toUInt32 31)).toInt32 ^^^ (1 : Int32))) k).2.2.2.1 100 8 = (U.2.2.2.1 100 8) from rfl) (show ((upF U 100 8 o (fun i => ((((((U.2.2.1 100 9).2 i) ^^^ ((U.2.2.1 100 10).2 i)) ||| (-(((U.2.2.1 100 9).2 i) ^^^ ((U.2.2.1 100 10).2 i)))).toUInt32 >>> ((31 : Int32).toUInt32 &&& Int32.toUInt32 31)).toInt32 ^^^ (1 : Int32))) k).2.2.1 100 8).1 = (U.2.2.1 100 8).1 from rfl) (by omega) (by omega))⟩) ?_
          rw [show (nI (o + k)).toNatClampNeg = o + k from nI_clamp (by omega)]
          obtain ⟨u6, r6, d6⟩ : um m (mu_si Hse (mu_p (U.2.2.2.1 100 8)) (o + k) (((((((U.2.2.1 100 9).2 k) ^^^ ((U.2.2.1 100 10).2 k)) ||| (-(((U.2.2.1 100 9).2 k) ^^^ ((U.2.2.1 100 10).2 k)))).toUInt32 >>> ((31 : Int32).toUInt32 &&& Int32.toUInt32 31)).toInt32) ^^^ (1 : Int32))) ∧ ur m C Hse (mu_si Hse (mu_p (U.2.2.2.1 100 8)) (o + k) (((((((U.2.2.1 100 9).2 k) ^^^ ((U.2.2.1 100 10).2 k)) ||| (-(((U.2.2.1 100 9).2 k) ^^^ ((U.2.2.1 100 10).2 k)))).toUInt32 >>> ((31 : Int32).toUInt32 &&& Int32.toUInt32 31)).toInt32) ^^^ (1 : Int32))) ∧ ud m (mu_si Hse (mu_p (U.2.2.2.1 100 8)) (o + k) (((((((U.2.2.1 100 9).2 k) ^^^ ((U.2.2.1 100 10).2 k)) ||| (-(((U.2.2.1 100 9).2 k) ^^^ ((U.2.2.1 100 10).2 k)))).toUInt32 >>> ((31 : Int32).toUInt32 &&& Int32.toUInt32 31)).toInt32) ^^^ (1 : Int32))) = (upA (upF U 100 8 o (fun i => ((((((U.2.2.1 100 9).2 i) ^^^ ((U.2.2.1 100 10).2 i)) ||| (-(((U.2.2.1 100 9).2 i) ^^^ ((U.2.2.1 100 10).2 i)))).toUInt32 >>> ((31 : Int32).toUInt32 &&& Int32.toUInt32 31)).toInt32 ^^^ (1 : Int32))) k) 100 8 (o + k) (((((((U.2.2.1 100 9).2 k) ^^^ ((U.2.2.1 100 10).2 k)) ||| (-(((U.2.2.1 100 9).2 k) ^^^ ((U.2.2.1 100 10).2 k)))).toUInt32 >>> ((31 : Int32).toUInt32 &&& Int32.toUInt32 31)).toInt32) ^^^ (1 : Int32))) := ue.sA (C := C) de rfl rfl (show (upF U 100 8 o (fun i => ((((((U.2.2.1 100 9).2 i) ^^^ ((U.2.2.1 100 10).2 i)) ||| (-(((U.2.2.1 100 9).2 i) ^^^ ((U.2.2.1 100 10).2 i)))).toUInt32 >>> ((31 : Int32).toUInt32 &&& Int32.toUInt32 31)).toInt32 ^^^ (1 : Int32))) k).2.2.2.1 100 8 = (U.2.2.2.1 100 8) from rfl)
          generalize (mu_si Hse (mu_p (U.2.2.2.1 100 8)) (o + k) (((((((U.2.2.1 100 9).2 k) ^^^ ((U.2.2.1 100 10).2 k)) ||| (-(((U.2.2.1 100 9).2 k) ^^^ ((U.2.2.1 100 10).2 k)))).toUInt32 >>> ((31 : Int32).toUInt32 &&& Int32.toUInt32 31)).toInt32) ^^^ (1 : Int32))) = Q6 at u6 r6 d6 ⊢
          have ht6 : ur m C H Q6 := hte.trans r6
          refine mw_go mu_g225 (k := 1) (f1 := (262, [(4, .inl ((nI k) + 1)), (5, .inl (((U.2.2.1 100 9).2 k) ^^^ ((U.2.2.1 100 10).2 k))), (0, .inr (.inr (some 100))), (1, .inl op), (2, .inl (nI o)), (3, .inl (1 : Int32))], [], Q6)) (C := []) rfl trivial ?_
          rw [(show ((nI k) + 1) = (nI (k + 1)) from (nI_add k 1))]
          refine mw_go mu_g225 (k := 1) (f1 := (213, [(4, .inl (nI (k + 1))), (5, .inl (((U.2.2.1 100 9).2 k) ^^^ ((U.2.2.1 100 10).2 k))), (0, .inr (.inr (some 100))), (1, .inl op), (2, .inl (nI o)), (3, .inl (1 : Int32))], [], Q6)) (C := []) rfl trivial ?_
          exact mw_sub (by simp) (ihe (k + 1, Q6) ⟨u6, ht6, (show ud m Q6 = (upF U 100 8 o (fun i => ((((((U.2.2.1 100 9).2 i) ^^^ ((U.2.2.1 100 10).2 i)) ||| (-(((U.2.2.1 100 9).2 i) ^^^ ((U.2.2.1 100 10).2 i)))).toUInt32 >>> ((31 : Int32).toUInt32 &&& Int32.toUInt32 31)).toInt32 ^^^ (1 : Int32))) (k + 1)) from (by rw [d6]; exact upF_next)), (show (k + 1) ≤ l from (by omega))⟩ (by show l - (k + 1) < l - k; omega))
        · -- 265: not (nI k) < (nI l)
          have nh5 : ¬ k < l := fun z => h5 (show nI k < nI l from (nI_ltI (by omega) (by omega)).mpr z)
          exact mw_of (fun _ => mu_ret rfl trivial ⟨Hse, rfl, ue, hte, (by rw [de]; exact upF_to (by omega) (funext fun i => by unfold jT; rw [if_neg e5, if_neg e6, if_neg e8, if_neg e9, if_pos (Or.inr h4)]; rfl))⟩)
      · -- 208: not op = (16 : Int32)
        refine mw_go mu_g225 (k := 4) (f1 := (213, [(4, .inl (0 : Int32)), (3, .inl (0 : Int32)), (0, .inr (.inr (some 100))), (1, .inl op), (2, .inl (nI o))], [], H)) (C := []) rfl trivial ?_
        show mu_W _ _ (213, [(4, .inl (nI 0)), (3, .inl (0 : Int32)), (0, .inr (.inr (some 100))), (1, .inl op), (2, .inl (nI o))], [], H) _
        refine mw_sub (L' := [(4, .inl (nI 0)), (0, .inr (.inr (some 100))), (1, .inl op), (2, .inl (nI o)), (3, .inl (0 : Int32))]) (by simp) ?_
        refine mw_down (α := Nat × mu_H) (fun zs => (213, [(4, .inl (nI zs.1)), (0, .inr (.inr (some 100))), (1, .inl op), (2, .inl (nI o)), (3, .inl (0 : Int32))], [], zs.2)) (fun zs => l - zs.1) (fun zs => um m zs.2 ∧ ur m C H zs.2 ∧ (ud m zs.2 = (upF U 100 8 o (fun i => ((((((U.2.2.1 100 9).2 i) ^^^ ((U.2.2.1 100 10).2 i)) ||| (-(((U.2.2.1 100 9).2 i) ^^^ ((U.2.2.1 100 10).2 i)))).toUInt32 >>> ((31 : Int32).toUInt32 &&& Int32.toUInt32 31)).toInt32 ^^^ (0 : Int32))) zs.1)) ∧ (zs.1 ≤ l)) (fun zs hze ihe => ?_) (0, H) ⟨h, (ur.refl m C H), (show ud m H = (upF U 100 8 o (fun i => ((((((U.2.2.1 100 9).2 i) ^^^ ((U.2.2.1 100 10).2 i)) ||| (-(((U.2.2.1 100 9).2 i) ^^^ ((U.2.2.1 100 10).2 i)))).toUInt32 >>> ((31 : Int32).toUInt32 &&& Int32.toUInt32 31)).toInt32 ^^^ (0 : Int32))) 0) from (by rw [e]; exact upF_zero.symm)), (show 0 ≤ l from (by omega))⟩
        obtain ⟨k, Hse⟩ := zs
        obtain ⟨ue, hte, de, hk⟩ := hze
        have ue : um m Hse := ue
        have hte : ur m C H Hse := hte
        have de : ud m Hse = (upF U 100 8 o (fun i => ((((((U.2.2.1 100 9).2 i) ^^^ ((U.2.2.1 100 10).2 i)) ||| (-(((U.2.2.1 100 9).2 i) ^^^ ((U.2.2.1 100 10).2 i)))).toUInt32 >>> ((31 : Int32).toUInt32 &&& Int32.toUInt32 31)).toInt32 ^^^ (0 : Int32))) k) := de
        have hk : k ≤ l := hk
        show mu_W _ _ (213, [(4, .inl (nI k)), (0, .inr (.inr (some 100))), (1, .inl op), (2, .inl (nI o)), (3, .inl (0 : Int32))], [], Hse) _
        refine mw_go mu_g225 (k := 3) (f1 := (219, [(4, .inl (nI k)), (0, .inr (.inr (some 100))), (1, .inl op), (2, .inl (nI o)), (3, .inl (0 : Int32))], [.inl (mu_i Hse 100 18), .inl (nI k)], Hse)) (C := [mu_is Hse (some 100) 5]) rfl (show mu_is Hse (some 100) 5 from (ue.1.1.is rfl)) ?_
        rw [(show mu_i Hse 100 18 = (nI l) from (ud_i (m := m) (P := 100) (j := 18) de rfl).trans hl)]
        refine mw_if (P := (nI k) < (nI l)) (a := 222) (b := 265) (fun _ => rfl) trivial (fun h7 => ?_) (fun h7 => ?_)
        · -- 222: (nI k) < (nI l)
          have nh7 : k < l := (nI_ltI (by omega) (by omega)).mp (show nI k < nI l from h7)
          refine mw_go mu_g225 (k := 2) (f1 := (226, [(4, .inl (nI k)), (0, .inr (.inr (some 100))), (1, .inl op), (2, .inl (nI o)), (3, .inl (0 : Int32))], [.inr (.inr (mu_r Hse 100 9))], Hse)) (C := [mu_is Hse (some 100) 5]) rfl (show mu_is Hse (some 100) 5 from (ue.1.1.is rfl)) ?_
          rw [(ue.1.1.r (p := 100) (j := 9) (q := 107) rfl)]
          refine mw_go mu_g225 (k := 2) (f1 := (229, [(4, .inl (nI k)), (0, .inr (.inr (some 100))), (1, .inl op), (2, .inl (nI o)), (3, .inl (0 : Int32))], [.inl (mu_i Hse 107 (nI k).toNatClampNeg)], Hse)) (C := [mu_isr Hse (some 107) 100, vp_in (nI k) (mu_n Hse 107)]) rfl (show (mu_isr Hse (some 107) 100) ∧ (vp_in (nI k) (mu_n Hse 107)) from ⟨((ue.iA de rfl rfl ((ud_q (m := m) (P := 100) (j := 9) de rfl).symm.trans (ue.1.1.r (p := 100) (j := 9) (q := 107) rfl)))).r, (by rw [show mu_n Hse 107 = 1024 from (ue.1.1.a (p := 107) (x := (100, 1024)) rfl).2]; exact vp_in_nI (by omega) (by decide))⟩) ?_
          rw [(show (mu_i Hse 107 (nI k).toNatClampNeg) = ((U.2.2.1 100 9).2 k) from ((congrArg (mu_i Hse 107) (nI_clamp (by omega))).trans (ue.gA de rfl rfl ((ud_q (m := m) (P := 100) (j := 9) de rfl).symm.trans (ue.1.1.r (p := 100) (j := 9) (q := 107) rfl)))).trans ((congrArg (fun z => z.2 k) (show (upF U 100 8 o (fun i => ((((((U.2.2.1 100 9).2 i) ^^^ ((U.2.2.1 100 10).2 i)) ||| (-(((U.2.2.1 100 9).2 i) ^^^ ((U.2.2.1 100 10).2 i)))).toUInt32 >>> ((31 : Int32).toUInt32 &&& Int32.toUInt32 31)).toInt32 ^^^ (0 : Int32))) k).2.2.1 100 9 = (U.2.2.1 100 9) from rfl)).trans rfl))]
          refine mw_go mu_g225 (k := 2) (f1 := (233, [(4, .inl (nI k)), (0, .inr (.inr (some 100))), (1, .inl op), (2, .inl (nI o)), (3, .inl (0 : Int32))], [.inr (.inr (mu_r Hse 100 10)), .inl ((U.2.2.1 100 9).2 k)], Hse)) (C := [mu_is Hse (some 100) 5]) rfl (show mu_is Hse (some 100) 5 from (ue.1.1.is rfl)) ?_
          rw [(ue.1.1.r (p := 100) (j := 10) (q := 108) rfl)]
          refine mw_go mu_g225 (k := 2) (f1 := (236, [(4, .inl (nI k)), (0, .inr (.inr (some 100))), (1, .inl op), (2, .inl (nI o)), (3, .inl (0 : Int32))], [.inl (mu_i Hse 108 (nI k).toNatClampNeg), .inl ((U.2.2.1 100 9).2 k)], Hse)) (C := [mu_isr Hse (some 108) 100, vp_in (nI k) (mu_n Hse 108)]) rfl (show (mu_isr Hse (some 108) 100) ∧ (vp_in (nI k) (mu_n Hse 108)) from ⟨((ue.iA de rfl rfl ((ud_q (m := m) (P := 100) (j := 10) de rfl).symm.trans (ue.1.1.r (p := 100) (j := 10) (q := 108) rfl)))).r, (by rw [show mu_n Hse 108 = 1024 from (ue.1.1.a (p := 108) (x := (100, 1024)) rfl).2]; exact vp_in_nI (by omega) (by decide))⟩) ?_
          rw [(show (mu_i Hse 108 (nI k).toNatClampNeg) = ((U.2.2.1 100 10).2 k) from ((congrArg (mu_i Hse 108) (nI_clamp (by omega))).trans (ue.gA de rfl rfl ((ud_q (m := m) (P := 100) (j := 10) de rfl).symm.trans (ue.1.1.r (p := 100) (j := 10) (q := 108) rfl)))).trans ((congrArg (fun z => z.2 k) (show (upF U 100 8 o (fun i => ((((((U.2.2.1 100 9).2 i) ^^^ ((U.2.2.1 100 10).2 i)) ||| (-(((U.2.2.1 100 9).2 i) ^^^ ((U.2.2.1 100 10).2 i)))).toUInt32 >>> ((31 : Int32).toUInt32 &&& Int32.toUInt32 31)).toInt32 ^^^ (0 : Int32))) k).2.2.1 100 10 = (U.2.2.1 100 10) from rfl)).trans rfl))]
          refine mw_go mu_g225 (k := 4) (f1 := (243, [(5, .inl (((U.2.2.1 100 9).2 k) ^^^ ((U.2.2.1 100 10).2 k))), (4, .inl (nI k)), (0, .inr (.inr (some 100))), (1, .inl op), (2, .inl (nI o)), (3, .inl (0 : Int32))], [.inr (.inr (mu_r Hse 100 8))], Hse)) (C := [mu_is Hse (some 100) 5]) rfl (show mu_is Hse (some 100) 5 from (ue.1.1.is rfl)) ?_
          rw [(show mu_r Hse 100 8 = (U.2.2.2.1 100 8) from (ud_q (m := m) (P := 100) (j := 8) de rfl))]
          refine mw_go mu_g225 (k := 3) (f1 := (247, [(5, .inl (((U.2.2.1 100 9).2 k) ^^^ ((U.2.2.1 100 10).2 k))), (4, .inl (nI k)), (0, .inr (.inr (some 100))), (1, .inl op), (2, .inl (nI o)), (3, .inl (0 : Int32))], [.inl ((nI o) + (nI k)), .inr (.inr (U.2.2.2.1 100 8))], Hse)) (C := []) rfl trivial ?_
          rw [(show ((nI o) + (nI k)) = (nI (o + k)) from (nI_add o k))]
          refine mw_go mu_g225 (k := 9) (f1 := (259, [(5, .inl (((U.2.2.1 100 9).2 k) ^^^ ((U.2.2.1 100 10).2 k))), (4, .inl (nI k)), (0, .inr (.inr (some 100))), (1, .inl op), (2, .inl (nI o)), (3, .inl (0 : Int32))], [], (mu_si Hse (mu_p (U.2.2.2.1 100 8)) (nI (o + k)).toNatClampNeg (((((((U.2.2.1 100 9).2 k) ^^^ ((U.2.2.1 100 10).2 k)) ||| (-(((U.2.2.1 100 9).2 k) ^^^ ((U.2.2.1 100 10).2 k)))).toUInt32 >>> ((31 : Int32).toUInt32 &&& Int32.toUInt32 31)).toInt32) ^^^ (0 : Int32))))) (C := [mu_is Hse (U.2.2.2.1 100 8) 100, vp_in (nI (o + k)) (mu_n Hse (mu_p (U.2.2.2.1 100 8)))]) rfl (show (mu_is Hse (U.2.2.2.1 100 8) 100) ∧ (vp_in (nI (o + k)) (mu_n Hse (mu_p (U.2.2.2.1 100 8)))) from ⟨(ue.iA de rfl rfl (show (upF U 100 8 o (fun i => ((((((U.2.2.1 100 9).2 i) ^^^ ((U.2.2.1 100 10).2 i)) ||| (-(((U.2.2.1 100 9).2 i) ^^^ ((U.2.2.1 100 10).2 i)))).toUInt32 >>> ((31 : Int32).toUInt32 &&& Int32.toUInt32 31)).toInt32 ^^^ (0 : Int32))) k).2.2.2.1 100 8 = (U.2.2.2.1 100 8) from rfl)), (ue.vA de rfl rfl (show (upF U 100 8 o (fun i => ((((((U.2.2.1 100 9).2 i) ^^^ ((U.2.2.1 100 10).2 i)) ||| (-(((U.2.2.1 100 9).2 i) ^^^ ((U.2.2.1 100 10).2 i)))).toUInt32 >>> ((31 : Int32).toUInt32 &&& Int32.toUInt32 31)).toInt32 ^^^ (0 : Int32))) k).2.2.2.1 100 8 = (U.2.2.2.1 100 8) from rfl) (show ((upF U 100 8 o (fun i => ((((((U.2.2.1 100 9).2 i) ^^^ ((U.2.2.1 100 10).2 i)) ||| (-(((U.2.2.1 100 9).2 i) ^^^ ((U.2.2.1 100 10).2 i)))).toUInt32 >>> ((31 : Int32).toUInt32 &&& Int32.toUInt32 31)).toInt32 ^^^ (0 : Int32))) k).2.2.1 100 8).1 = (U.2.2.1 100 8).1 from rfl) (by omega) (by omega))⟩) ?_
          rw [show (nI (o + k)).toNatClampNeg = o + k from nI_clamp (by omega)]
          obtain ⟨u8, r8, d8⟩ : um m (mu_si Hse (mu_p (U.2.2.2.1 100 8)) (o + k) (((((((U.2.2.1 100 9).2 k) ^^^ ((U.2.2.1 100 10).2 k)) ||| (-(((U.2.2.1 100 9).2 k) ^^^ ((U.2.2.1 100 10).2 k)))).toUInt32 >>> ((31 : Int32).toUInt32 &&& Int32.toUInt32 31)).toInt32) ^^^ (0 : Int32))) ∧ ur m C Hse (mu_si Hse (mu_p (U.2.2.2.1 100 8)) (o + k) (((((((U.2.2.1 100 9).2 k) ^^^ ((U.2.2.1 100 10).2 k)) ||| (-(((U.2.2.1 100 9).2 k) ^^^ ((U.2.2.1 100 10).2 k)))).toUInt32 >>> ((31 : Int32).toUInt32 &&& Int32.toUInt32 31)).toInt32) ^^^ (0 : Int32))) ∧ ud m (mu_si Hse (mu_p (U.2.2.2.1 100 8)) (o + k) (((((((U.2.2.1 100 9).2 k) ^^^ ((U.2.2.1 100 10).2 k)) ||| (-(((U.2.2.1 100 9).2 k) ^^^ ((U.2.2.1 100 10).2 k)))).toUInt32 >>> ((31 : Int32).toUInt32 &&& Int32.toUInt32 31)).toInt32) ^^^ (0 : Int32))) = (upA (upF U 100 8 o (fun i => ((((((U.2.2.1 100 9).2 i) ^^^ ((U.2.2.1 100 10).2 i)) ||| (-(((U.2.2.1 100 9).2 i) ^^^ ((U.2.2.1 100 10).2 i)))).toUInt32 >>> ((31 : Int32).toUInt32 &&& Int32.toUInt32 31)).toInt32 ^^^ (0 : Int32))) k) 100 8 (o + k) (((((((U.2.2.1 100 9).2 k) ^^^ ((U.2.2.1 100 10).2 k)) ||| (-(((U.2.2.1 100 9).2 k) ^^^ ((U.2.2.1 100 10).2 k)))).toUInt32 >>> ((31 : Int32).toUInt32 &&& Int32.toUInt32 31)).toInt32) ^^^ (0 : Int32))) := ue.sA (C := C) de rfl rfl (show (upF U 100 8 o (fun i => ((((((U.2.2.1 100 9).2 i) ^^^ ((U.2.2.1 100 10).2 i)) ||| (-(((U.2.2.1 100 9).2 i) ^^^ ((U.2.2.1 100 10).2 i)))).toUInt32 >>> ((31 : Int32).toUInt32 &&& Int32.toUInt32 31)).toInt32 ^^^ (0 : Int32))) k).2.2.2.1 100 8 = (U.2.2.2.1 100 8) from rfl)
          generalize (mu_si Hse (mu_p (U.2.2.2.1 100 8)) (o + k) (((((((U.2.2.1 100 9).2 k) ^^^ ((U.2.2.1 100 10).2 k)) ||| (-(((U.2.2.1 100 9).2 k) ^^^ ((U.2.2.1 100 10).2 k)))).toUInt32 >>> ((31 : Int32).toUInt32 &&& Int32.toUInt32 31)).toInt32) ^^^ (0 : Int32))) = Q8 at u8 r8 d8 ⊢
          have ht8 : ur m C H Q8 := hte.trans r8
          refine mw_go mu_g225 (k := 1) (f1 := (262, [(4, .inl ((nI k) + 1)), (5, .inl (((U.2.2.1 100 9).2 k) ^^^ ((U.2.2.1 100 10).2 k))), (0, .inr (.inr (some 100))), (1, .inl op), (2, .inl (nI o)), (3, .inl (0 : Int32))], [], Q8)) (C := []) rfl trivial ?_
          rw [(show ((nI k) + 1) = (nI (k + 1)) from (nI_add k 1))]
          refine mw_go mu_g225 (k := 1) (f1 := (213, [(4, .inl (nI (k + 1))), (5, .inl (((U.2.2.1 100 9).2 k) ^^^ ((U.2.2.1 100 10).2 k))), (0, .inr (.inr (some 100))), (1, .inl op), (2, .inl (nI o)), (3, .inl (0 : Int32))], [], Q8)) (C := []) rfl trivial ?_
          exact mw_sub (by simp) (ihe (k + 1, Q8) ⟨u8, ht8, (show ud m Q8 = (upF U 100 8 o (fun i => ((((((U.2.2.1 100 9).2 i) ^^^ ((U.2.2.1 100 10).2 i)) ||| (-(((U.2.2.1 100 9).2 i) ^^^ ((U.2.2.1 100 10).2 i)))).toUInt32 >>> ((31 : Int32).toUInt32 &&& Int32.toUInt32 31)).toInt32 ^^^ (0 : Int32))) (k + 1)) from (by rw [d8]; exact upF_next)), (show (k + 1) ≤ l from (by omega))⟩ (by show l - (k + 1) < l - k; omega))
        · -- 265: not (nI k) < (nI l)
          have nh7 : ¬ k < l := fun z => h7 (show nI k < nI l from (nI_ltI (by omega) (by omega)).mpr z)
          exact mw_of (fun _ => mu_ret rfl trivial ⟨Hse, rfl, ue, hte, (by rw [de]; exact upF_to (by omega) (funext fun i => by unfold jT; rw [if_neg e5, if_neg e6, if_neg e8, if_neg e9, if_neg (fun y => y.elim h1 h4)]; rfl))⟩)
  · obtain rfl : op = (5 : Int32) := Int32.toInt_inj.mp (z.trans (by decide))
    refine mw_go mu_g225 (k := 2) (f1 := (38, [(3, .inl (0 : Int32)), (0, .inr (.inr (some 100))), (1, .inl (5 : Int32)), (2, .inl (nI o))], [], H)) (C := []) rfl trivial ?_
    show mu_W _ _ (38, [(3, .inl (nI 0)), (0, .inr (.inr (some 100))), (1, .inl (5 : Int32)), (2, .inl (nI o))], [], H) _
    refine mw_sub (L' := [(3, .inl (nI 0)), (0, .inr (.inr (some 100))), (1, .inl (5 : Int32)), (2, .inl (nI o))]) (by simp) ?_
    refine mw_down (α := Nat × mu_H) (fun zs => (38, [(3, .inl (nI zs.1)), (0, .inr (.inr (some 100))), (1, .inl (5 : Int32)), (2, .inl (nI o))], [], zs.2)) (fun zs => l - zs.1) (fun zs => um m zs.2 ∧ ur m C H zs.2 ∧ (ud m zs.2 = (upF U 100 8 o (fun i => ((((U.2.2.1 100 9).2 i) ^^^ (1 : Int32)) ||| ((U.2.2.1 100 10).2 i))) zs.1)) ∧ (zs.1 ≤ l)) (fun zs hza iha => ?_) (0, H) ⟨h, (ur.refl m C H), (show ud m H = (upF U 100 8 o (fun i => ((((U.2.2.1 100 9).2 i) ^^^ (1 : Int32)) ||| ((U.2.2.1 100 10).2 i))) 0) from (by rw [e]; exact upF_zero.symm)), (show 0 ≤ l from (by omega))⟩
    obtain ⟨k, Hsa⟩ := zs
    obtain ⟨ua, hta, da, hk⟩ := hza
    have ua : um m Hsa := ua
    have hta : ur m C H Hsa := hta
    have da : ud m Hsa = (upF U 100 8 o (fun i => ((((U.2.2.1 100 9).2 i) ^^^ (1 : Int32)) ||| ((U.2.2.1 100 10).2 i))) k) := da
    have hk : k ≤ l := hk
    show mu_W _ _ (38, [(3, .inl (nI k)), (0, .inr (.inr (some 100))), (1, .inl (5 : Int32)), (2, .inl (nI o))], [], Hsa) _
    refine mw_go mu_g225 (k := 3) (f1 := (43, [(3, .inl (nI k)), (0, .inr (.inr (some 100))), (1, .inl (5 : Int32)), (2, .inl (nI o))], [.inl (mu_i Hsa 100 18), .inl (nI k)], Hsa)) (C := [mu_is Hsa (some 100) 5]) rfl (show mu_is Hsa (some 100) 5 from (ua.1.1.is rfl)) ?_
    rw [(show mu_i Hsa 100 18 = (nI l) from (ud_i (m := m) (P := 100) (j := 18) da rfl).trans hl)]
    refine mw_if (P := (nI k) < (nI l)) (a := 46) (b := 75) (fun _ => rfl) trivial (fun h9 => ?_) (fun h9 => ?_)
    · -- 46: (nI k) < (nI l)
      have nh9 : k < l := (nI_ltI (by omega) (by omega)).mp (show nI k < nI l from h9)
      refine mw_go mu_g225 (k := 2) (f1 := (50, [(3, .inl (nI k)), (0, .inr (.inr (some 100))), (1, .inl (5 : Int32)), (2, .inl (nI o))], [.inr (.inr (mu_r Hsa 100 8))], Hsa)) (C := [mu_is Hsa (some 100) 5]) rfl (show mu_is Hsa (some 100) 5 from (ua.1.1.is rfl)) ?_
      rw [(show mu_r Hsa 100 8 = (U.2.2.2.1 100 8) from (ud_q (m := m) (P := 100) (j := 8) da rfl))]
      refine mw_go mu_g225 (k := 3) (f1 := (53, [(3, .inl (nI k)), (0, .inr (.inr (some 100))), (1, .inl (5 : Int32)), (2, .inl (nI o))], [.inl ((nI o) + (nI k)), .inr (.inr (U.2.2.2.1 100 8))], Hsa)) (C := []) rfl trivial ?_
      rw [(show ((nI o) + (nI k)) = (nI (o + k)) from (nI_add o k))]
      refine mw_go mu_g225 (k := 2) (f1 := (57, [(3, .inl (nI k)), (0, .inr (.inr (some 100))), (1, .inl (5 : Int32)), (2, .inl (nI o))], [.inr (.inr (mu_r Hsa 100 9)), .inl (nI (o + k)), .inr (.inr (U.2.2.2.1 100 8))], Hsa)) (C := [mu_is Hsa (some 100) 5]) rfl (show mu_is Hsa (some 100) 5 from (ua.1.1.is rfl)) ?_
      rw [(ua.1.1.r (p := 100) (j := 9) (q := 107) rfl)]
      refine mw_go mu_g225 (k := 2) (f1 := (59, [(3, .inl (nI k)), (0, .inr (.inr (some 100))), (1, .inl (5 : Int32)), (2, .inl (nI o))], [.inl (mu_i Hsa 107 (nI k).toNatClampNeg), .inl (nI (o + k)), .inr (.inr (U.2.2.2.1 100 8))], Hsa)) (C := [mu_isr Hsa (some 107) 100, vp_in (nI k) (mu_n Hsa 107)]) rfl (show (mu_isr Hsa (some 107) 100) ∧ (vp_in (nI k) (mu_n Hsa 107)) from ⟨((ua.iA da rfl rfl ((ud_q (m := m) (P := 100) (j := 9) da rfl).symm.trans (ua.1.1.r (p := 100) (j := 9) (q := 107) rfl)))).r, (by rw [show mu_n Hsa 107 = 1024 from (ua.1.1.a (p := 107) (x := (100, 1024)) rfl).2]; exact vp_in_nI (by omega) (by decide))⟩) ?_
      rw [(show (mu_i Hsa 107 (nI k).toNatClampNeg) = ((U.2.2.1 100 9).2 k) from ((congrArg (mu_i Hsa 107) (nI_clamp (by omega))).trans (ua.gA da rfl rfl ((ud_q (m := m) (P := 100) (j := 9) da rfl).symm.trans (ua.1.1.r (p := 100) (j := 9) (q := 107) rfl)))).trans ((congrArg (fun z => z.2 k) (show (upF U 100 8 o (fun i => ((((U.2.2.1 100 9).2 i) ^^^ (1 : Int32)) ||| ((U.2.2.1 100 10).2 i))) k).2.2.1 100 9 = (U.2.2.1 100 9) from rfl)).trans rfl))]
      refine mw_go mu_g225 (k := 4) (f1 := (65, [(3, .inl (nI k)), (0, .inr (.inr (some 100))), (1, .inl (5 : Int32)), (2, .inl (nI o))], [.inr (.inr (mu_r Hsa 100 10)), .inl (((U.2.2.1 100 9).2 k) ^^^ (1 : Int32)), .inl (nI (o + k)), .inr (.inr (U.2.2.2.1 100 8))], Hsa)) (C := [mu_is Hsa (some 100) 5]) rfl (show mu_is Hsa (some 100) 5 from (ua.1.1.is rfl)) ?_
      rw [(ua.1.1.r (p := 100) (j := 10) (q := 108) rfl)]
      refine mw_go mu_g225 (k := 2) (f1 := (67, [(3, .inl (nI k)), (0, .inr (.inr (some 100))), (1, .inl (5 : Int32)), (2, .inl (nI o))], [.inl (mu_i Hsa 108 (nI k).toNatClampNeg), .inl (((U.2.2.1 100 9).2 k) ^^^ (1 : Int32)), .inl (nI (o + k)), .inr (.inr (U.2.2.2.1 100 8))], Hsa)) (C := [mu_isr Hsa (some 108) 100, vp_in (nI k) (mu_n Hsa 108)]) rfl (show (mu_isr Hsa (some 108) 100) ∧ (vp_in (nI k) (mu_n Hsa 108)) from ⟨((ua.iA da rfl rfl ((ud_q (m := m) (P := 100) (j := 10) da rfl).symm.trans (ua.1.1.r (p := 100) (j := 10) (q := 108) rfl)))).r, (by rw [show mu_n Hsa 108 = 1024 from (ua.1.1.a (p := 108) (x := (100, 1024)) rfl).2]; exact vp_in_nI (by omega) (by decide))⟩) ?_
      rw [(show (mu_i Hsa 108 (nI k).toNatClampNeg) = ((U.2.2.1 100 10).2 k) from ((congrArg (mu_i Hsa 108) (nI_clamp (by omega))).trans (ua.gA da rfl rfl ((ud_q (m := m) (P := 100) (j := 10) da rfl).symm.trans (ua.1.1.r (p := 100) (j := 10) (q := 108) rfl)))).trans ((congrArg (fun z => z.2 k) (show (upF U 100 8 o (fun i => ((((U.2.2.1 100 9).2 i) ^^^ (1 : Int32)) ||| ((U.2.2.1 100 10).2 i))) k).2.2.1 100 10 = (U.2.2.1 100 10) from rfl)).trans rfl))]
      refine mw_go mu_g225 (k := 2) (f1 := (69, [(3, .inl (nI k)), (0, .inr (.inr (some 100))), (1, .inl (5 : Int32)), (2, .inl (nI o))], [], (mu_si Hsa (mu_p (U.2.2.2.1 100 8)) (nI (o + k)).toNatClampNeg ((((U.2.2.1 100 9).2 k) ^^^ (1 : Int32)) ||| ((U.2.2.1 100 10).2 k))))) (C := [mu_is Hsa (U.2.2.2.1 100 8) 100, vp_in (nI (o + k)) (mu_n Hsa (mu_p (U.2.2.2.1 100 8)))]) rfl (show (mu_is Hsa (U.2.2.2.1 100 8) 100) ∧ (vp_in (nI (o + k)) (mu_n Hsa (mu_p (U.2.2.2.1 100 8)))) from ⟨(ua.iA da rfl rfl (show (upF U 100 8 o (fun i => ((((U.2.2.1 100 9).2 i) ^^^ (1 : Int32)) ||| ((U.2.2.1 100 10).2 i))) k).2.2.2.1 100 8 = (U.2.2.2.1 100 8) from rfl)), (ua.vA da rfl rfl (show (upF U 100 8 o (fun i => ((((U.2.2.1 100 9).2 i) ^^^ (1 : Int32)) ||| ((U.2.2.1 100 10).2 i))) k).2.2.2.1 100 8 = (U.2.2.2.1 100 8) from rfl) (show ((upF U 100 8 o (fun i => ((((U.2.2.1 100 9).2 i) ^^^ (1 : Int32)) ||| ((U.2.2.1 100 10).2 i))) k).2.2.1 100 8).1 = (U.2.2.1 100 8).1 from rfl) (by omega) (by omega))⟩) ?_
      rw [show (nI (o + k)).toNatClampNeg = o + k from nI_clamp (by omega)]
      obtain ⟨u10, r10, d10⟩ : um m (mu_si Hsa (mu_p (U.2.2.2.1 100 8)) (o + k) ((((U.2.2.1 100 9).2 k) ^^^ (1 : Int32)) ||| ((U.2.2.1 100 10).2 k))) ∧ ur m C Hsa (mu_si Hsa (mu_p (U.2.2.2.1 100 8)) (o + k) ((((U.2.2.1 100 9).2 k) ^^^ (1 : Int32)) ||| ((U.2.2.1 100 10).2 k))) ∧ ud m (mu_si Hsa (mu_p (U.2.2.2.1 100 8)) (o + k) ((((U.2.2.1 100 9).2 k) ^^^ (1 : Int32)) ||| ((U.2.2.1 100 10).2 k))) = (upA (upF U 100 8 o (fun i => ((((U.2.2.1 100 9).2 i) ^^^ (1 : Int32)) ||| ((U.2.2.1 100 10).2 i))) k) 100 8 (o + k) ((((U.2.2.1 100 9).2 k) ^^^ (1 : Int32)) ||| ((U.2.2.1 100 10).2 k))) := ua.sA (C := C) da rfl rfl (show (upF U 100 8 o (fun i => ((((U.2.2.1 100 9).2 i) ^^^ (1 : Int32)) ||| ((U.2.2.1 100 10).2 i))) k).2.2.2.1 100 8 = (U.2.2.2.1 100 8) from rfl)
      generalize (mu_si Hsa (mu_p (U.2.2.2.1 100 8)) (o + k) ((((U.2.2.1 100 9).2 k) ^^^ (1 : Int32)) ||| ((U.2.2.1 100 10).2 k))) = Q10 at u10 r10 d10 ⊢
      have ht10 : ur m C H Q10 := hta.trans r10
      refine mw_go mu_g225 (k := 1) (f1 := (72, [(3, .inl ((nI k) + 1)), (0, .inr (.inr (some 100))), (1, .inl (5 : Int32)), (2, .inl (nI o))], [], Q10)) (C := []) rfl trivial ?_
      rw [(show ((nI k) + 1) = (nI (k + 1)) from (nI_add k 1))]
      refine mw_go mu_g225 (k := 1) (f1 := (38, [(3, .inl (nI (k + 1))), (0, .inr (.inr (some 100))), (1, .inl (5 : Int32)), (2, .inl (nI o))], [], Q10)) (C := []) rfl trivial ?_
      exact mw_sub (by simp) (iha (k + 1, Q10) ⟨u10, ht10, (show ud m Q10 = (upF U 100 8 o (fun i => ((((U.2.2.1 100 9).2 i) ^^^ (1 : Int32)) ||| ((U.2.2.1 100 10).2 i))) (k + 1)) from (by rw [d10]; exact upF_next)), (show (k + 1) ≤ l from (by omega))⟩ (by show l - (k + 1) < l - k; omega))
    · -- 75: not (nI k) < (nI l)
      have nh9 : ¬ k < l := fun z => h9 (show nI k < nI l from (nI_ltI (by omega) (by omega)).mpr z)
      refine mw_go mu_g225 (k := 1) (f1 := (265, [(3, .inl (nI k)), (0, .inr (.inr (some 100))), (1, .inl (5 : Int32)), (2, .inl (nI o))], [], Hsa)) (C := []) rfl trivial ?_
      exact mw_of (fun _ => mu_ret rfl trivial ⟨Hsa, rfl, ua, hta, (by rw [da]; exact upF_to (by omega) rfl)⟩)
  · obtain rfl : op = (6 : Int32) := Int32.toInt_inj.mp (z.trans (by decide))
    refine mw_go mu_g225 (k := 2) (f1 := (80, [(3, .inl (0 : Int32)), (0, .inr (.inr (some 100))), (1, .inl (6 : Int32)), (2, .inl (nI o))], [], H)) (C := []) rfl trivial ?_
    show mu_W _ _ (80, [(3, .inl (nI 0)), (0, .inr (.inr (some 100))), (1, .inl (6 : Int32)), (2, .inl (nI o))], [], H) _
    refine mw_sub (L' := [(3, .inl (nI 0)), (0, .inr (.inr (some 100))), (1, .inl (6 : Int32)), (2, .inl (nI o))]) (by simp) ?_
    refine mw_down (α := Nat × mu_H) (fun zs => (80, [(3, .inl (nI zs.1)), (0, .inr (.inr (some 100))), (1, .inl (6 : Int32)), (2, .inl (nI o))], [], zs.2)) (fun zs => l - zs.1) (fun zs => um m zs.2 ∧ ur m C H zs.2 ∧ (ud m zs.2 = (upF U 100 8 o (fun i => (((U.2.2.1 100 9).2 i) ||| ((U.2.2.1 100 10).2 i))) zs.1)) ∧ (zs.1 ≤ l)) (fun zs hzb ihb => ?_) (0, H) ⟨h, (ur.refl m C H), (show ud m H = (upF U 100 8 o (fun i => (((U.2.2.1 100 9).2 i) ||| ((U.2.2.1 100 10).2 i))) 0) from (by rw [e]; exact upF_zero.symm)), (show 0 ≤ l from (by omega))⟩
    obtain ⟨k, Hsb⟩ := zs
    obtain ⟨ub, htb, db, hk⟩ := hzb
    have ub : um m Hsb := ub
    have htb : ur m C H Hsb := htb
    have db : ud m Hsb = (upF U 100 8 o (fun i => (((U.2.2.1 100 9).2 i) ||| ((U.2.2.1 100 10).2 i))) k) := db
    have hk : k ≤ l := hk
    show mu_W _ _ (80, [(3, .inl (nI k)), (0, .inr (.inr (some 100))), (1, .inl (6 : Int32)), (2, .inl (nI o))], [], Hsb) _
    refine mw_go mu_g225 (k := 3) (f1 := (85, [(3, .inl (nI k)), (0, .inr (.inr (some 100))), (1, .inl (6 : Int32)), (2, .inl (nI o))], [.inl (mu_i Hsb 100 18), .inl (nI k)], Hsb)) (C := [mu_is Hsb (some 100) 5]) rfl (show mu_is Hsb (some 100) 5 from (ub.1.1.is rfl)) ?_
    rw [(show mu_i Hsb 100 18 = (nI l) from (ud_i (m := m) (P := 100) (j := 18) db rfl).trans hl)]
    refine mw_if (P := (nI k) < (nI l)) (a := 88) (b := 115) (fun _ => rfl) trivial (fun h11 => ?_) (fun h11 => ?_)
    · -- 88: (nI k) < (nI l)
      have nh11 : k < l := (nI_ltI (by omega) (by omega)).mp (show nI k < nI l from h11)
      refine mw_go mu_g225 (k := 2) (f1 := (92, [(3, .inl (nI k)), (0, .inr (.inr (some 100))), (1, .inl (6 : Int32)), (2, .inl (nI o))], [.inr (.inr (mu_r Hsb 100 8))], Hsb)) (C := [mu_is Hsb (some 100) 5]) rfl (show mu_is Hsb (some 100) 5 from (ub.1.1.is rfl)) ?_
      rw [(show mu_r Hsb 100 8 = (U.2.2.2.1 100 8) from (ud_q (m := m) (P := 100) (j := 8) db rfl))]
      refine mw_go mu_g225 (k := 3) (f1 := (95, [(3, .inl (nI k)), (0, .inr (.inr (some 100))), (1, .inl (6 : Int32)), (2, .inl (nI o))], [.inl ((nI o) + (nI k)), .inr (.inr (U.2.2.2.1 100 8))], Hsb)) (C := []) rfl trivial ?_
      rw [(show ((nI o) + (nI k)) = (nI (o + k)) from (nI_add o k))]
      refine mw_go mu_g225 (k := 2) (f1 := (99, [(3, .inl (nI k)), (0, .inr (.inr (some 100))), (1, .inl (6 : Int32)), (2, .inl (nI o))], [.inr (.inr (mu_r Hsb 100 9)), .inl (nI (o + k)), .inr (.inr (U.2.2.2.1 100 8))], Hsb)) (C := [mu_is Hsb (some 100) 5]) rfl (show mu_is Hsb (some 100) 5 from (ub.1.1.is rfl)) ?_
      rw [(ub.1.1.r (p := 100) (j := 9) (q := 107) rfl)]
      refine mw_go mu_g225 (k := 2) (f1 := (101, [(3, .inl (nI k)), (0, .inr (.inr (some 100))), (1, .inl (6 : Int32)), (2, .inl (nI o))], [.inl (mu_i Hsb 107 (nI k).toNatClampNeg), .inl (nI (o + k)), .inr (.inr (U.2.2.2.1 100 8))], Hsb)) (C := [mu_isr Hsb (some 107) 100, vp_in (nI k) (mu_n Hsb 107)]) rfl (show (mu_isr Hsb (some 107) 100) ∧ (vp_in (nI k) (mu_n Hsb 107)) from ⟨((ub.iA db rfl rfl ((ud_q (m := m) (P := 100) (j := 9) db rfl).symm.trans (ub.1.1.r (p := 100) (j := 9) (q := 107) rfl)))).r, (by rw [show mu_n Hsb 107 = 1024 from (ub.1.1.a (p := 107) (x := (100, 1024)) rfl).2]; exact vp_in_nI (by omega) (by decide))⟩) ?_
      rw [(show (mu_i Hsb 107 (nI k).toNatClampNeg) = ((U.2.2.1 100 9).2 k) from ((congrArg (mu_i Hsb 107) (nI_clamp (by omega))).trans (ub.gA db rfl rfl ((ud_q (m := m) (P := 100) (j := 9) db rfl).symm.trans (ub.1.1.r (p := 100) (j := 9) (q := 107) rfl)))).trans ((congrArg (fun z => z.2 k) (show (upF U 100 8 o (fun i => (((U.2.2.1 100 9).2 i) ||| ((U.2.2.1 100 10).2 i))) k).2.2.1 100 9 = (U.2.2.1 100 9) from rfl)).trans rfl))]
      refine mw_go mu_g225 (k := 2) (f1 := (105, [(3, .inl (nI k)), (0, .inr (.inr (some 100))), (1, .inl (6 : Int32)), (2, .inl (nI o))], [.inr (.inr (mu_r Hsb 100 10)), .inl ((U.2.2.1 100 9).2 k), .inl (nI (o + k)), .inr (.inr (U.2.2.2.1 100 8))], Hsb)) (C := [mu_is Hsb (some 100) 5]) rfl (show mu_is Hsb (some 100) 5 from (ub.1.1.is rfl)) ?_
      rw [(ub.1.1.r (p := 100) (j := 10) (q := 108) rfl)]
      refine mw_go mu_g225 (k := 2) (f1 := (107, [(3, .inl (nI k)), (0, .inr (.inr (some 100))), (1, .inl (6 : Int32)), (2, .inl (nI o))], [.inl (mu_i Hsb 108 (nI k).toNatClampNeg), .inl ((U.2.2.1 100 9).2 k), .inl (nI (o + k)), .inr (.inr (U.2.2.2.1 100 8))], Hsb)) (C := [mu_isr Hsb (some 108) 100, vp_in (nI k) (mu_n Hsb 108)]) rfl (show (mu_isr Hsb (some 108) 100) ∧ (vp_in (nI k) (mu_n Hsb 108)) from ⟨((ub.iA db rfl rfl ((ud_q (m := m) (P := 100) (j := 10) db rfl).symm.trans (ub.1.1.r (p := 100) (j := 10) (q := 108) rfl)))).r, (by rw [show mu_n Hsb 108 = 1024 from (ub.1.1.a (p := 108) (x := (100, 1024)) rfl).2]; exact vp_in_nI (by omega) (by decide))⟩) ?_
      rw [(show (mu_i Hsb 108 (nI k).toNatClampNeg) = ((U.2.2.1 100 10).2 k) from ((congrArg (mu_i Hsb 108) (nI_clamp (by omega))).trans (ub.gA db rfl rfl ((ud_q (m := m) (P := 100) (j := 10) db rfl).symm.trans (ub.1.1.r (p := 100) (j := 10) (q := 108) rfl)))).trans ((congrArg (fun z => z.2 k) (show (upF U 100 8 o (fun i => (((U.2.2.1 100 9).2 i) ||| ((U.2.2.1 100 10).2 i))) k).2.2.1 100 10 = (U.2.2.1 100 10) from rfl)).trans rfl))]
      refine mw_go mu_g225 (k := 2) (f1 := (109, [(3, .inl (nI k)), (0, .inr (.inr (some 100))), (1, .inl (6 : Int32)), (2, .inl (nI o))], [], (mu_si Hsb (mu_p (U.2.2.2.1 100 8)) (nI (o + k)).toNatClampNeg (((U.2.2.1 100 9).2 k) ||| ((U.2.2.1 100 10).2 k))))) (C := [mu_is Hsb (U.2.2.2.1 100 8) 100, vp_in (nI (o + k)) (mu_n Hsb (mu_p (U.2.2.2.1 100 8)))]) rfl (show (mu_is Hsb (U.2.2.2.1 100 8) 100) ∧ (vp_in (nI (o + k)) (mu_n Hsb (mu_p (U.2.2.2.1 100 8)))) from ⟨(ub.iA db rfl rfl (show (upF U 100 8 o (fun i => (((U.2.2.1 100 9).2 i) ||| ((U.2.2.1 100 10).2 i))) k).2.2.2.1 100 8 = (U.2.2.2.1 100 8) from rfl)), (ub.vA db rfl rfl (show (upF U 100 8 o (fun i => (((U.2.2.1 100 9).2 i) ||| ((U.2.2.1 100 10).2 i))) k).2.2.2.1 100 8 = (U.2.2.2.1 100 8) from rfl) (show ((upF U 100 8 o (fun i => (((U.2.2.1 100 9).2 i) ||| ((U.2.2.1 100 10).2 i))) k).2.2.1 100 8).1 = (U.2.2.1 100 8).1 from rfl) (by omega) (by omega))⟩) ?_
      rw [show (nI (o + k)).toNatClampNeg = o + k from nI_clamp (by omega)]
      obtain ⟨u12, r12, d12⟩ : um m (mu_si Hsb (mu_p (U.2.2.2.1 100 8)) (o + k) (((U.2.2.1 100 9).2 k) ||| ((U.2.2.1 100 10).2 k))) ∧ ur m C Hsb (mu_si Hsb (mu_p (U.2.2.2.1 100 8)) (o + k) (((U.2.2.1 100 9).2 k) ||| ((U.2.2.1 100 10).2 k))) ∧ ud m (mu_si Hsb (mu_p (U.2.2.2.1 100 8)) (o + k) (((U.2.2.1 100 9).2 k) ||| ((U.2.2.1 100 10).2 k))) = (upA (upF U 100 8 o (fun i => (((U.2.2.1 100 9).2 i) ||| ((U.2.2.1 100 10).2 i))) k) 100 8 (o + k) (((U.2.2.1 100 9).2 k) ||| ((U.2.2.1 100 10).2 k))) := ub.sA (C := C) db rfl rfl (show (upF U 100 8 o (fun i => (((U.2.2.1 100 9).2 i) ||| ((U.2.2.1 100 10).2 i))) k).2.2.2.1 100 8 = (U.2.2.2.1 100 8) from rfl)
      generalize (mu_si Hsb (mu_p (U.2.2.2.1 100 8)) (o + k) (((U.2.2.1 100 9).2 k) ||| ((U.2.2.1 100 10).2 k))) = Q12 at u12 r12 d12 ⊢
      have ht12 : ur m C H Q12 := htb.trans r12
      refine mw_go mu_g225 (k := 1) (f1 := (112, [(3, .inl ((nI k) + 1)), (0, .inr (.inr (some 100))), (1, .inl (6 : Int32)), (2, .inl (nI o))], [], Q12)) (C := []) rfl trivial ?_
      rw [(show ((nI k) + 1) = (nI (k + 1)) from (nI_add k 1))]
      refine mw_go mu_g225 (k := 1) (f1 := (80, [(3, .inl (nI (k + 1))), (0, .inr (.inr (some 100))), (1, .inl (6 : Int32)), (2, .inl (nI o))], [], Q12)) (C := []) rfl trivial ?_
      exact mw_sub (by simp) (ihb (k + 1, Q12) ⟨u12, ht12, (show ud m Q12 = (upF U 100 8 o (fun i => (((U.2.2.1 100 9).2 i) ||| ((U.2.2.1 100 10).2 i))) (k + 1)) from (by rw [d12]; exact upF_next)), (show (k + 1) ≤ l from (by omega))⟩ (by show l - (k + 1) < l - k; omega))
    · -- 115: not (nI k) < (nI l)
      have nh11 : ¬ k < l := fun z => h11 (show nI k < nI l from (nI_ltI (by omega) (by omega)).mpr z)
      refine mw_go mu_g225 (k := 1) (f1 := (265, [(3, .inl (nI k)), (0, .inr (.inr (some 100))), (1, .inl (6 : Int32)), (2, .inl (nI o))], [], Hsb)) (C := []) rfl trivial ?_
      exact mw_of (fun _ => mu_ret rfl trivial ⟨Hsb, rfl, ub, htb, (by rw [db]; exact upF_to (by omega) rfl)⟩)
  · obtain rfl : op = (7 : Int32) := Int32.toInt_inj.mp (z.trans (by decide))
    refine mw_go mu_g225 (k := 2) (f1 := (195, [(0, .inr (.inr (some 100))), (1, .inl (7 : Int32)), (2, .inl (nI o))], [.inl (4 : Int32), .inl (7 : Int32)], H)) (C := []) rfl trivial ?_
    refine mw_if (P := (7 : Int32) = (4 : Int32)) (a := 204) (b := 198) (fun _ => rfl) trivial (fun h13 => absurd h13 (by decide)) (fun h13 => ?_)
    refine mw_go mu_g225 (k := 2) (f1 := (201, [(0, .inr (.inr (some 100))), (1, .inl (7 : Int32)), (2, .inl (nI o))], [.inl (16 : Int32), .inl (7 : Int32)], H)) (C := []) rfl trivial ?_
    refine mw_if (P := (7 : Int32) = (16 : Int32)) (a := 204) (b := 208) (fun _ => rfl) trivial (fun h14 => absurd h14 (by decide)) (fun h14 => ?_)
    refine mw_go mu_g225 (k := 4) (f1 := (213, [(4, .inl (0 : Int32)), (3, .inl (0 : Int32)), (0, .inr (.inr (some 100))), (1, .inl (7 : Int32)), (2, .inl (nI o))], [], H)) (C := []) rfl trivial ?_
    show mu_W _ _ (213, [(4, .inl (nI 0)), (3, .inl (0 : Int32)), (0, .inr (.inr (some 100))), (1, .inl (7 : Int32)), (2, .inl (nI o))], [], H) _
    refine mw_sub (L' := [(4, .inl (nI 0)), (0, .inr (.inr (some 100))), (1, .inl (7 : Int32)), (2, .inl (nI o)), (3, .inl (0 : Int32))]) (by simp) ?_
    refine mw_down (α := Nat × mu_H) (fun zs => (213, [(4, .inl (nI zs.1)), (0, .inr (.inr (some 100))), (1, .inl (7 : Int32)), (2, .inl (nI o)), (3, .inl (0 : Int32))], [], zs.2)) (fun zs => l - zs.1) (fun zs => um m zs.2 ∧ ur m C H zs.2 ∧ (ud m zs.2 = (upF U 100 8 o (fun i => ((((((U.2.2.1 100 9).2 i) ^^^ ((U.2.2.1 100 10).2 i)) ||| (-(((U.2.2.1 100 9).2 i) ^^^ ((U.2.2.1 100 10).2 i)))).toUInt32 >>> ((31 : Int32).toUInt32 &&& Int32.toUInt32 31)).toInt32 ^^^ (0 : Int32))) zs.1)) ∧ (zs.1 ≤ l)) (fun zs hze ihe => ?_) (0, H) ⟨h, (ur.refl m C H), (show ud m H = (upF U 100 8 o (fun i => ((((((U.2.2.1 100 9).2 i) ^^^ ((U.2.2.1 100 10).2 i)) ||| (-(((U.2.2.1 100 9).2 i) ^^^ ((U.2.2.1 100 10).2 i)))).toUInt32 >>> ((31 : Int32).toUInt32 &&& Int32.toUInt32 31)).toInt32 ^^^ (0 : Int32))) 0) from (by rw [e]; exact upF_zero.symm)), (show 0 ≤ l from (by omega))⟩
    obtain ⟨k, Hse⟩ := zs
    obtain ⟨ue, hte, de, hk⟩ := hze
    have ue : um m Hse := ue
    have hte : ur m C H Hse := hte
    have de : ud m Hse = (upF U 100 8 o (fun i => ((((((U.2.2.1 100 9).2 i) ^^^ ((U.2.2.1 100 10).2 i)) ||| (-(((U.2.2.1 100 9).2 i) ^^^ ((U.2.2.1 100 10).2 i)))).toUInt32 >>> ((31 : Int32).toUInt32 &&& Int32.toUInt32 31)).toInt32 ^^^ (0 : Int32))) k) := de
    have hk : k ≤ l := hk
    show mu_W _ _ (213, [(4, .inl (nI k)), (0, .inr (.inr (some 100))), (1, .inl (7 : Int32)), (2, .inl (nI o)), (3, .inl (0 : Int32))], [], Hse) _
    refine mw_go mu_g225 (k := 3) (f1 := (219, [(4, .inl (nI k)), (0, .inr (.inr (some 100))), (1, .inl (7 : Int32)), (2, .inl (nI o)), (3, .inl (0 : Int32))], [.inl (mu_i Hse 100 18), .inl (nI k)], Hse)) (C := [mu_is Hse (some 100) 5]) rfl (show mu_is Hse (some 100) 5 from (ue.1.1.is rfl)) ?_
    rw [(show mu_i Hse 100 18 = (nI l) from (ud_i (m := m) (P := 100) (j := 18) de rfl).trans hl)]
    refine mw_if (P := (nI k) < (nI l)) (a := 222) (b := 265) (fun _ => rfl) trivial (fun h15 => ?_) (fun h15 => ?_)
    · -- 222: (nI k) < (nI l)
      have nh15 : k < l := (nI_ltI (by omega) (by omega)).mp (show nI k < nI l from h15)
      refine mw_go mu_g225 (k := 2) (f1 := (226, [(4, .inl (nI k)), (0, .inr (.inr (some 100))), (1, .inl (7 : Int32)), (2, .inl (nI o)), (3, .inl (0 : Int32))], [.inr (.inr (mu_r Hse 100 9))], Hse)) (C := [mu_is Hse (some 100) 5]) rfl (show mu_is Hse (some 100) 5 from (ue.1.1.is rfl)) ?_
      rw [(ue.1.1.r (p := 100) (j := 9) (q := 107) rfl)]
      refine mw_go mu_g225 (k := 2) (f1 := (229, [(4, .inl (nI k)), (0, .inr (.inr (some 100))), (1, .inl (7 : Int32)), (2, .inl (nI o)), (3, .inl (0 : Int32))], [.inl (mu_i Hse 107 (nI k).toNatClampNeg)], Hse)) (C := [mu_isr Hse (some 107) 100, vp_in (nI k) (mu_n Hse 107)]) rfl (show (mu_isr Hse (some 107) 100) ∧ (vp_in (nI k) (mu_n Hse 107)) from ⟨((ue.iA de rfl rfl ((ud_q (m := m) (P := 100) (j := 9) de rfl).symm.trans (ue.1.1.r (p := 100) (j := 9) (q := 107) rfl)))).r, (by rw [show mu_n Hse 107 = 1024 from (ue.1.1.a (p := 107) (x := (100, 1024)) rfl).2]; exact vp_in_nI (by omega) (by decide))⟩) ?_
      rw [(show (mu_i Hse 107 (nI k).toNatClampNeg) = ((U.2.2.1 100 9).2 k) from ((congrArg (mu_i Hse 107) (nI_clamp (by omega))).trans (ue.gA de rfl rfl ((ud_q (m := m) (P := 100) (j := 9) de rfl).symm.trans (ue.1.1.r (p := 100) (j := 9) (q := 107) rfl)))).trans ((congrArg (fun z => z.2 k) (show (upF U 100 8 o (fun i => ((((((U.2.2.1 100 9).2 i) ^^^ ((U.2.2.1 100 10).2 i)) ||| (-(((U.2.2.1 100 9).2 i) ^^^ ((U.2.2.1 100 10).2 i)))).toUInt32 >>> ((31 : Int32).toUInt32 &&& Int32.toUInt32 31)).toInt32 ^^^ (0 : Int32))) k).2.2.1 100 9 = (U.2.2.1 100 9) from rfl)).trans rfl))]
      refine mw_go mu_g225 (k := 2) (f1 := (233, [(4, .inl (nI k)), (0, .inr (.inr (some 100))), (1, .inl (7 : Int32)), (2, .inl (nI o)), (3, .inl (0 : Int32))], [.inr (.inr (mu_r Hse 100 10)), .inl ((U.2.2.1 100 9).2 k)], Hse)) (C := [mu_is Hse (some 100) 5]) rfl (show mu_is Hse (some 100) 5 from (ue.1.1.is rfl)) ?_
      rw [(ue.1.1.r (p := 100) (j := 10) (q := 108) rfl)]
      refine mw_go mu_g225 (k := 2) (f1 := (236, [(4, .inl (nI k)), (0, .inr (.inr (some 100))), (1, .inl (7 : Int32)), (2, .inl (nI o)), (3, .inl (0 : Int32))], [.inl (mu_i Hse 108 (nI k).toNatClampNeg), .inl ((U.2.2.1 100 9).2 k)], Hse)) (C := [mu_isr Hse (some 108) 100, vp_in (nI k) (mu_n Hse 108)]) rfl (show (mu_isr Hse (some 108) 100) ∧ (vp_in (nI k) (mu_n Hse 108)) from ⟨((ue.iA de rfl rfl ((ud_q (m := m) (P := 100) (j := 10) de rfl).symm.trans (ue.1.1.r (p := 100) (j := 10) (q := 108) rfl)))).r, (by rw [show mu_n Hse 108 = 1024 from (ue.1.1.a (p := 108) (x := (100, 1024)) rfl).2]; exact vp_in_nI (by omega) (by decide))⟩) ?_
      rw [(show (mu_i Hse 108 (nI k).toNatClampNeg) = ((U.2.2.1 100 10).2 k) from ((congrArg (mu_i Hse 108) (nI_clamp (by omega))).trans (ue.gA de rfl rfl ((ud_q (m := m) (P := 100) (j := 10) de rfl).symm.trans (ue.1.1.r (p := 100) (j := 10) (q := 108) rfl)))).trans ((congrArg (fun z => z.2 k) (show (upF U 100 8 o (fun i => ((((((U.2.2.1 100 9).2 i) ^^^ ((U.2.2.1 100 10).2 i)) ||| (-(((U.2.2.1 100 9).2 i) ^^^ ((U.2.2.1 100 10).2 i)))).toUInt32 >>> ((31 : Int32).toUInt32 &&& Int32.toUInt32 31)).toInt32 ^^^ (0 : Int32))) k).2.2.1 100 10 = (U.2.2.1 100 10) from rfl)).trans rfl))]
      refine mw_go mu_g225 (k := 4) (f1 := (243, [(5, .inl (((U.2.2.1 100 9).2 k) ^^^ ((U.2.2.1 100 10).2 k))), (4, .inl (nI k)), (0, .inr (.inr (some 100))), (1, .inl (7 : Int32)), (2, .inl (nI o)), (3, .inl (0 : Int32))], [.inr (.inr (mu_r Hse 100 8))], Hse)) (C := [mu_is Hse (some 100) 5]) rfl (show mu_is Hse (some 100) 5 from (ue.1.1.is rfl)) ?_
      rw [(show mu_r Hse 100 8 = (U.2.2.2.1 100 8) from (ud_q (m := m) (P := 100) (j := 8) de rfl))]
      refine mw_go mu_g225 (k := 3) (f1 := (247, [(5, .inl (((U.2.2.1 100 9).2 k) ^^^ ((U.2.2.1 100 10).2 k))), (4, .inl (nI k)), (0, .inr (.inr (some 100))), (1, .inl (7 : Int32)), (2, .inl (nI o)), (3, .inl (0 : Int32))], [.inl ((nI o) + (nI k)), .inr (.inr (U.2.2.2.1 100 8))], Hse)) (C := []) rfl trivial ?_
      rw [(show ((nI o) + (nI k)) = (nI (o + k)) from (nI_add o k))]
      refine mw_go mu_g225 (k := 9) (f1 := (259, [(5, .inl (((U.2.2.1 100 9).2 k) ^^^ ((U.2.2.1 100 10).2 k))), (4, .inl (nI k)), (0, .inr (.inr (some 100))), (1, .inl (7 : Int32)), (2, .inl (nI o)), (3, .inl (0 : Int32))], [], (mu_si Hse (mu_p (U.2.2.2.1 100 8)) (nI (o + k)).toNatClampNeg (((((((U.2.2.1 100 9).2 k) ^^^ ((U.2.2.1 100 10).2 k)) ||| (-(((U.2.2.1 100 9).2 k) ^^^ ((U.2.2.1 100 10).2 k)))).toUInt32 >>> ((31 : Int32).toUInt32 &&& Int32.toUInt32 31)).toInt32) ^^^ (0 : Int32))))) (C := [mu_is Hse (U.2.2.2.1 100 8) 100, vp_in (nI (o + k)) (mu_n Hse (mu_p (U.2.2.2.1 100 8)))]) rfl (show (mu_is Hse (U.2.2.2.1 100 8) 100) ∧ (vp_in (nI (o + k)) (mu_n Hse (mu_p (U.2.2.2.1 100 8)))) from ⟨(ue.iA de rfl rfl (show (upF U 100 8 o (fun i => ((((((U.2.2.1 100 9).2 i) ^^^ ((U.2.2.1 100 10).2 i)) ||| (-(((U.2.2.1 100 9).2 i) ^^^ ((U.2.2.1 100 10).2 i)))).toUInt32 >>> ((31 : Int32).toUInt32 &&& Int32.toUInt32 31)).toInt32 ^^^ (0 : Int32))) k).2.2.2.1 100 8 = (U.2.2.2.1 100 8) from rfl)), (ue.vA de rfl rfl (show (upF U 100 8 o (fun i => ((((((U.2.2.1 100 9).2 i) ^^^ ((U.2.2.1 100 10).2 i)) ||| (-(((U.2.2.1 100 9).2 i) ^^^ ((U.2.2.1 100 10).2 i)))).toUInt32 >>> ((31 : Int32).toUInt32 &&& Int32.toUInt32 31)).toInt32 ^^^ (0 : Int32))) k).2.2.2.1 100 8 = (U.2.2.2.1 100 8) from rfl) (show ((upF U 100 8 o (fun i => ((((((U.2.2.1 100 9).2 i) ^^^ ((U.2.2.1 100 10).2 i)) ||| (-(((U.2.2.1 100 9).2 i) ^^^ ((U.2.2.1 100 10).2 i)))).toUInt32 >>> ((31 : Int32).toUInt32 &&& Int32.toUInt32 31)).toInt32 ^^^ (0 : Int32))) k).2.2.1 100 8).1 = (U.2.2.1 100 8).1 from rfl) (by omega) (by omega))⟩) ?_
      rw [show (nI (o + k)).toNatClampNeg = o + k from nI_clamp (by omega)]
      obtain ⟨u16, r16, d16⟩ : um m (mu_si Hse (mu_p (U.2.2.2.1 100 8)) (o + k) (((((((U.2.2.1 100 9).2 k) ^^^ ((U.2.2.1 100 10).2 k)) ||| (-(((U.2.2.1 100 9).2 k) ^^^ ((U.2.2.1 100 10).2 k)))).toUInt32 >>> ((31 : Int32).toUInt32 &&& Int32.toUInt32 31)).toInt32) ^^^ (0 : Int32))) ∧ ur m C Hse (mu_si Hse (mu_p (U.2.2.2.1 100 8)) (o + k) (((((((U.2.2.1 100 9).2 k) ^^^ ((U.2.2.1 100 10).2 k)) ||| (-(((U.2.2.1 100 9).2 k) ^^^ ((U.2.2.1 100 10).2 k)))).toUInt32 >>> ((31 : Int32).toUInt32 &&& Int32.toUInt32 31)).toInt32) ^^^ (0 : Int32))) ∧ ud m (mu_si Hse (mu_p (U.2.2.2.1 100 8)) (o + k) (((((((U.2.2.1 100 9).2 k) ^^^ ((U.2.2.1 100 10).2 k)) ||| (-(((U.2.2.1 100 9).2 k) ^^^ ((U.2.2.1 100 10).2 k)))).toUInt32 >>> ((31 : Int32).toUInt32 &&& Int32.toUInt32 31)).toInt32) ^^^ (0 : Int32))) = (upA (upF U 100 8 o (fun i => ((((((U.2.2.1 100 9).2 i) ^^^ ((U.2.2.1 100 10).2 i)) ||| (-(((U.2.2.1 100 9).2 i) ^^^ ((U.2.2.1 100 10).2 i)))).toUInt32 >>> ((31 : Int32).toUInt32 &&& Int32.toUInt32 31)).toInt32 ^^^ (0 : Int32))) k) 100 8 (o + k) (((((((U.2.2.1 100 9).2 k) ^^^ ((U.2.2.1 100 10).2 k)) ||| (-(((U.2.2.1 100 9).2 k) ^^^ ((U.2.2.1 100 10).2 k)))).toUInt32 >>> ((31 : Int32).toUInt32 &&& Int32.toUInt32 31)).toInt32) ^^^ (0 : Int32))) := ue.sA (C := C) de rfl rfl (show (upF U 100 8 o (fun i => ((((((U.2.2.1 100 9).2 i) ^^^ ((U.2.2.1 100 10).2 i)) ||| (-(((U.2.2.1 100 9).2 i) ^^^ ((U.2.2.1 100 10).2 i)))).toUInt32 >>> ((31 : Int32).toUInt32 &&& Int32.toUInt32 31)).toInt32 ^^^ (0 : Int32))) k).2.2.2.1 100 8 = (U.2.2.2.1 100 8) from rfl)
      generalize (mu_si Hse (mu_p (U.2.2.2.1 100 8)) (o + k) (((((((U.2.2.1 100 9).2 k) ^^^ ((U.2.2.1 100 10).2 k)) ||| (-(((U.2.2.1 100 9).2 k) ^^^ ((U.2.2.1 100 10).2 k)))).toUInt32 >>> ((31 : Int32).toUInt32 &&& Int32.toUInt32 31)).toInt32) ^^^ (0 : Int32))) = Q16 at u16 r16 d16 ⊢
      have ht16 : ur m C H Q16 := hte.trans r16
      refine mw_go mu_g225 (k := 1) (f1 := (262, [(4, .inl ((nI k) + 1)), (5, .inl (((U.2.2.1 100 9).2 k) ^^^ ((U.2.2.1 100 10).2 k))), (0, .inr (.inr (some 100))), (1, .inl (7 : Int32)), (2, .inl (nI o)), (3, .inl (0 : Int32))], [], Q16)) (C := []) rfl trivial ?_
      rw [(show ((nI k) + 1) = (nI (k + 1)) from (nI_add k 1))]
      refine mw_go mu_g225 (k := 1) (f1 := (213, [(4, .inl (nI (k + 1))), (5, .inl (((U.2.2.1 100 9).2 k) ^^^ ((U.2.2.1 100 10).2 k))), (0, .inr (.inr (some 100))), (1, .inl (7 : Int32)), (2, .inl (nI o)), (3, .inl (0 : Int32))], [], Q16)) (C := []) rfl trivial ?_
      exact mw_sub (by simp) (ihe (k + 1, Q16) ⟨u16, ht16, (show ud m Q16 = (upF U 100 8 o (fun i => ((((((U.2.2.1 100 9).2 i) ^^^ ((U.2.2.1 100 10).2 i)) ||| (-(((U.2.2.1 100 9).2 i) ^^^ ((U.2.2.1 100 10).2 i)))).toUInt32 >>> ((31 : Int32).toUInt32 &&& Int32.toUInt32 31)).toInt32 ^^^ (0 : Int32))) (k + 1)) from (by rw [d16]; exact upF_next)), (show (k + 1) ≤ l from (by omega))⟩ (by show l - (k + 1) < l - k; omega))
    · -- 265: not (nI k) < (nI l)
      have nh15 : ¬ k < l := fun z => h15 (show nI k < nI l from (nI_ltI (by omega) (by omega)).mpr z)
      exact mw_of (fun _ => mu_ret rfl trivial ⟨Hse, rfl, ue, hte, (by rw [de]; exact upF_to (by omega) rfl)⟩)
  · obtain rfl : op = (8 : Int32) := Int32.toInt_inj.mp (z.trans (by decide))
    refine mw_go mu_g225 (k := 2) (f1 := (120, [(3, .inl (0 : Int32)), (0, .inr (.inr (some 100))), (1, .inl (8 : Int32)), (2, .inl (nI o))], [], H)) (C := []) rfl trivial ?_
    show mu_W _ _ (120, [(3, .inl (nI 0)), (0, .inr (.inr (some 100))), (1, .inl (8 : Int32)), (2, .inl (nI o))], [], H) _
    refine mw_sub (L' := [(3, .inl (nI 0)), (0, .inr (.inr (some 100))), (1, .inl (8 : Int32)), (2, .inl (nI o))]) (by simp) ?_
    refine mw_down (α := Nat × mu_H) (fun zs => (120, [(3, .inl (nI zs.1)), (0, .inr (.inr (some 100))), (1, .inl (8 : Int32)), (2, .inl (nI o))], [], zs.2)) (fun zs => l - zs.1) (fun zs => um m zs.2 ∧ ur m C H zs.2 ∧ (ud m zs.2 = (upF U 100 8 o (fun i => (((U.2.2.1 100 9).2 i) &&& ((U.2.2.1 100 10).2 i))) zs.1)) ∧ (zs.1 ≤ l)) (fun zs hzc ihc => ?_) (0, H) ⟨h, (ur.refl m C H), (show ud m H = (upF U 100 8 o (fun i => (((U.2.2.1 100 9).2 i) &&& ((U.2.2.1 100 10).2 i))) 0) from (by rw [e]; exact upF_zero.symm)), (show 0 ≤ l from (by omega))⟩
    obtain ⟨k, Hsc⟩ := zs
    obtain ⟨uc, htc, dc, hk⟩ := hzc
    have uc : um m Hsc := uc
    have htc : ur m C H Hsc := htc
    have dc : ud m Hsc = (upF U 100 8 o (fun i => (((U.2.2.1 100 9).2 i) &&& ((U.2.2.1 100 10).2 i))) k) := dc
    have hk : k ≤ l := hk
    show mu_W _ _ (120, [(3, .inl (nI k)), (0, .inr (.inr (some 100))), (1, .inl (8 : Int32)), (2, .inl (nI o))], [], Hsc) _
    refine mw_go mu_g225 (k := 3) (f1 := (125, [(3, .inl (nI k)), (0, .inr (.inr (some 100))), (1, .inl (8 : Int32)), (2, .inl (nI o))], [.inl (mu_i Hsc 100 18), .inl (nI k)], Hsc)) (C := [mu_is Hsc (some 100) 5]) rfl (show mu_is Hsc (some 100) 5 from (uc.1.1.is rfl)) ?_
    rw [(show mu_i Hsc 100 18 = (nI l) from (ud_i (m := m) (P := 100) (j := 18) dc rfl).trans hl)]
    refine mw_if (P := (nI k) < (nI l)) (a := 128) (b := 155) (fun _ => rfl) trivial (fun h17 => ?_) (fun h17 => ?_)
    · -- 128: (nI k) < (nI l)
      have nh17 : k < l := (nI_ltI (by omega) (by omega)).mp (show nI k < nI l from h17)
      refine mw_go mu_g225 (k := 2) (f1 := (132, [(3, .inl (nI k)), (0, .inr (.inr (some 100))), (1, .inl (8 : Int32)), (2, .inl (nI o))], [.inr (.inr (mu_r Hsc 100 8))], Hsc)) (C := [mu_is Hsc (some 100) 5]) rfl (show mu_is Hsc (some 100) 5 from (uc.1.1.is rfl)) ?_
      rw [(show mu_r Hsc 100 8 = (U.2.2.2.1 100 8) from (ud_q (m := m) (P := 100) (j := 8) dc rfl))]
      refine mw_go mu_g225 (k := 3) (f1 := (135, [(3, .inl (nI k)), (0, .inr (.inr (some 100))), (1, .inl (8 : Int32)), (2, .inl (nI o))], [.inl ((nI o) + (nI k)), .inr (.inr (U.2.2.2.1 100 8))], Hsc)) (C := []) rfl trivial ?_
      rw [(show ((nI o) + (nI k)) = (nI (o + k)) from (nI_add o k))]
      refine mw_go mu_g225 (k := 2) (f1 := (139, [(3, .inl (nI k)), (0, .inr (.inr (some 100))), (1, .inl (8 : Int32)), (2, .inl (nI o))], [.inr (.inr (mu_r Hsc 100 9)), .inl (nI (o + k)), .inr (.inr (U.2.2.2.1 100 8))], Hsc)) (C := [mu_is Hsc (some 100) 5]) rfl (show mu_is Hsc (some 100) 5 from (uc.1.1.is rfl)) ?_
      rw [(uc.1.1.r (p := 100) (j := 9) (q := 107) rfl)]
      refine mw_go mu_g225 (k := 2) (f1 := (141, [(3, .inl (nI k)), (0, .inr (.inr (some 100))), (1, .inl (8 : Int32)), (2, .inl (nI o))], [.inl (mu_i Hsc 107 (nI k).toNatClampNeg), .inl (nI (o + k)), .inr (.inr (U.2.2.2.1 100 8))], Hsc)) (C := [mu_isr Hsc (some 107) 100, vp_in (nI k) (mu_n Hsc 107)]) rfl (show (mu_isr Hsc (some 107) 100) ∧ (vp_in (nI k) (mu_n Hsc 107)) from ⟨((uc.iA dc rfl rfl ((ud_q (m := m) (P := 100) (j := 9) dc rfl).symm.trans (uc.1.1.r (p := 100) (j := 9) (q := 107) rfl)))).r, (by rw [show mu_n Hsc 107 = 1024 from (uc.1.1.a (p := 107) (x := (100, 1024)) rfl).2]; exact vp_in_nI (by omega) (by decide))⟩) ?_
      rw [(show (mu_i Hsc 107 (nI k).toNatClampNeg) = ((U.2.2.1 100 9).2 k) from ((congrArg (mu_i Hsc 107) (nI_clamp (by omega))).trans (uc.gA dc rfl rfl ((ud_q (m := m) (P := 100) (j := 9) dc rfl).symm.trans (uc.1.1.r (p := 100) (j := 9) (q := 107) rfl)))).trans ((congrArg (fun z => z.2 k) (show (upF U 100 8 o (fun i => (((U.2.2.1 100 9).2 i) &&& ((U.2.2.1 100 10).2 i))) k).2.2.1 100 9 = (U.2.2.1 100 9) from rfl)).trans rfl))]
      refine mw_go mu_g225 (k := 2) (f1 := (145, [(3, .inl (nI k)), (0, .inr (.inr (some 100))), (1, .inl (8 : Int32)), (2, .inl (nI o))], [.inr (.inr (mu_r Hsc 100 10)), .inl ((U.2.2.1 100 9).2 k), .inl (nI (o + k)), .inr (.inr (U.2.2.2.1 100 8))], Hsc)) (C := [mu_is Hsc (some 100) 5]) rfl (show mu_is Hsc (some 100) 5 from (uc.1.1.is rfl)) ?_
      rw [(uc.1.1.r (p := 100) (j := 10) (q := 108) rfl)]
      refine mw_go mu_g225 (k := 2) (f1 := (147, [(3, .inl (nI k)), (0, .inr (.inr (some 100))), (1, .inl (8 : Int32)), (2, .inl (nI o))], [.inl (mu_i Hsc 108 (nI k).toNatClampNeg), .inl ((U.2.2.1 100 9).2 k), .inl (nI (o + k)), .inr (.inr (U.2.2.2.1 100 8))], Hsc)) (C := [mu_isr Hsc (some 108) 100, vp_in (nI k) (mu_n Hsc 108)]) rfl (show (mu_isr Hsc (some 108) 100) ∧ (vp_in (nI k) (mu_n Hsc 108)) from ⟨((uc.iA dc rfl rfl ((ud_q (m := m) (P := 100) (j := 10) dc rfl).symm.trans (uc.1.1.r (p := 100) (j := 10) (q := 108) rfl)))).r, (by rw [show mu_n Hsc 108 = 1024 from (uc.1.1.a (p := 108) (x := (100, 1024)) rfl).2]; exact vp_in_nI (by omega) (by decide))⟩) ?_
      rw [(show (mu_i Hsc 108 (nI k).toNatClampNeg) = ((U.2.2.1 100 10).2 k) from ((congrArg (mu_i Hsc 108) (nI_clamp (by omega))).trans (uc.gA dc rfl rfl ((ud_q (m := m) (P := 100) (j := 10) dc rfl).symm.trans (uc.1.1.r (p := 100) (j := 10) (q := 108) rfl)))).trans ((congrArg (fun z => z.2 k) (show (upF U 100 8 o (fun i => (((U.2.2.1 100 9).2 i) &&& ((U.2.2.1 100 10).2 i))) k).2.2.1 100 10 = (U.2.2.1 100 10) from rfl)).trans rfl))]
      refine mw_go mu_g225 (k := 2) (f1 := (149, [(3, .inl (nI k)), (0, .inr (.inr (some 100))), (1, .inl (8 : Int32)), (2, .inl (nI o))], [], (mu_si Hsc (mu_p (U.2.2.2.1 100 8)) (nI (o + k)).toNatClampNeg (((U.2.2.1 100 9).2 k) &&& ((U.2.2.1 100 10).2 k))))) (C := [mu_is Hsc (U.2.2.2.1 100 8) 100, vp_in (nI (o + k)) (mu_n Hsc (mu_p (U.2.2.2.1 100 8)))]) rfl (show (mu_is Hsc (U.2.2.2.1 100 8) 100) ∧ (vp_in (nI (o + k)) (mu_n Hsc (mu_p (U.2.2.2.1 100 8)))) from ⟨(uc.iA dc rfl rfl (show (upF U 100 8 o (fun i => (((U.2.2.1 100 9).2 i) &&& ((U.2.2.1 100 10).2 i))) k).2.2.2.1 100 8 = (U.2.2.2.1 100 8) from rfl)), (uc.vA dc rfl rfl (show (upF U 100 8 o (fun i => (((U.2.2.1 100 9).2 i) &&& ((U.2.2.1 100 10).2 i))) k).2.2.2.1 100 8 = (U.2.2.2.1 100 8) from rfl) (show ((upF U 100 8 o (fun i => (((U.2.2.1 100 9).2 i) &&& ((U.2.2.1 100 10).2 i))) k).2.2.1 100 8).1 = (U.2.2.1 100 8).1 from rfl) (by omega) (by omega))⟩) ?_
      rw [show (nI (o + k)).toNatClampNeg = o + k from nI_clamp (by omega)]
      obtain ⟨u18, r18, d18⟩ : um m (mu_si Hsc (mu_p (U.2.2.2.1 100 8)) (o + k) (((U.2.2.1 100 9).2 k) &&& ((U.2.2.1 100 10).2 k))) ∧ ur m C Hsc (mu_si Hsc (mu_p (U.2.2.2.1 100 8)) (o + k) (((U.2.2.1 100 9).2 k) &&& ((U.2.2.1 100 10).2 k))) ∧ ud m (mu_si Hsc (mu_p (U.2.2.2.1 100 8)) (o + k) (((U.2.2.1 100 9).2 k) &&& ((U.2.2.1 100 10).2 k))) = (upA (upF U 100 8 o (fun i => (((U.2.2.1 100 9).2 i) &&& ((U.2.2.1 100 10).2 i))) k) 100 8 (o + k) (((U.2.2.1 100 9).2 k) &&& ((U.2.2.1 100 10).2 k))) := uc.sA (C := C) dc rfl rfl (show (upF U 100 8 o (fun i => (((U.2.2.1 100 9).2 i) &&& ((U.2.2.1 100 10).2 i))) k).2.2.2.1 100 8 = (U.2.2.2.1 100 8) from rfl)
      generalize (mu_si Hsc (mu_p (U.2.2.2.1 100 8)) (o + k) (((U.2.2.1 100 9).2 k) &&& ((U.2.2.1 100 10).2 k))) = Q18 at u18 r18 d18 ⊢
      have ht18 : ur m C H Q18 := htc.trans r18
      refine mw_go mu_g225 (k := 1) (f1 := (152, [(3, .inl ((nI k) + 1)), (0, .inr (.inr (some 100))), (1, .inl (8 : Int32)), (2, .inl (nI o))], [], Q18)) (C := []) rfl trivial ?_
      rw [(show ((nI k) + 1) = (nI (k + 1)) from (nI_add k 1))]
      refine mw_go mu_g225 (k := 1) (f1 := (120, [(3, .inl (nI (k + 1))), (0, .inr (.inr (some 100))), (1, .inl (8 : Int32)), (2, .inl (nI o))], [], Q18)) (C := []) rfl trivial ?_
      exact mw_sub (by simp) (ihc (k + 1, Q18) ⟨u18, ht18, (show ud m Q18 = (upF U 100 8 o (fun i => (((U.2.2.1 100 9).2 i) &&& ((U.2.2.1 100 10).2 i))) (k + 1)) from (by rw [d18]; exact upF_next)), (show (k + 1) ≤ l from (by omega))⟩ (by show l - (k + 1) < l - k; omega))
    · -- 155: not (nI k) < (nI l)
      have nh17 : ¬ k < l := fun z => h17 (show nI k < nI l from (nI_ltI (by omega) (by omega)).mpr z)
      refine mw_go mu_g225 (k := 1) (f1 := (265, [(3, .inl (nI k)), (0, .inr (.inr (some 100))), (1, .inl (8 : Int32)), (2, .inl (nI o))], [], Hsc)) (C := []) rfl trivial ?_
      exact mw_of (fun _ => mu_ret rfl trivial ⟨Hsc, rfl, uc, htc, (by rw [dc]; exact upF_to (by omega) rfl)⟩)
  · obtain rfl : op = (9 : Int32) := Int32.toInt_inj.mp (z.trans (by decide))
    refine mw_go mu_g225 (k := 2) (f1 := (160, [(3, .inl (0 : Int32)), (0, .inr (.inr (some 100))), (1, .inl (9 : Int32)), (2, .inl (nI o))], [], H)) (C := []) rfl trivial ?_
    show mu_W _ _ (160, [(3, .inl (nI 0)), (0, .inr (.inr (some 100))), (1, .inl (9 : Int32)), (2, .inl (nI o))], [], H) _
    refine mw_sub (L' := [(3, .inl (nI 0)), (0, .inr (.inr (some 100))), (1, .inl (9 : Int32)), (2, .inl (nI o))]) (by simp) ?_
    refine mw_down (α := Nat × mu_H) (fun zs => (160, [(3, .inl (nI zs.1)), (0, .inr (.inr (some 100))), (1, .inl (9 : Int32)), (2, .inl (nI o))], [], zs.2)) (fun zs => l - zs.1) (fun zs => um m zs.2 ∧ ur m C H zs.2 ∧ (ud m zs.2 = (upF U 100 8 o (fun i => (((U.2.2.1 100 9).2 i) ^^^ (1 : Int32))) zs.1)) ∧ (zs.1 ≤ l)) (fun zs hzd ihd => ?_) (0, H) ⟨h, (ur.refl m C H), (show ud m H = (upF U 100 8 o (fun i => (((U.2.2.1 100 9).2 i) ^^^ (1 : Int32))) 0) from (by rw [e]; exact upF_zero.symm)), (show 0 ≤ l from (by omega))⟩
    obtain ⟨k, Hsd⟩ := zs
    obtain ⟨ud, htd, dd, hk⟩ := hzd
    have ud : um m Hsd := ud
    have htd : ur m C H Hsd := htd
    have dd : ud m Hsd = (upF U 100 8 o (fun i => (((U.2.2.1 100 9).2 i) ^^^ (1 : Int32))) k) := dd
    have hk : k ≤ l := hk
    show mu_W _ _ (160, [(3, .inl (nI k)), (0, .inr (.inr (some 100))), (1, .inl (9 : Int32)), (2, .inl (nI o))], [], Hsd) _
    refine mw_go mu_g225 (k := 3) (f1 := (165, [(3, .inl (nI k)), (0, .inr (.inr (some 100))), (1, .inl (9 : Int32)), (2, .inl (nI o))], [.inl (mu_i Hsd 100 18), .inl (nI k)], Hsd)) (C := [mu_is Hsd (some 100) 5]) rfl (show mu_is Hsd (some 100) 5 from (ud.1.1.is rfl)) ?_
    rw [(show mu_i Hsd 100 18 = (nI l) from (ud_i (m := m) (P := 100) (j := 18) dd rfl).trans hl)]
    refine mw_if (P := (nI k) < (nI l)) (a := 168) (b := 190) (fun _ => rfl) trivial (fun h19 => ?_) (fun h19 => ?_)
    · -- 168: (nI k) < (nI l)
      have nh19 : k < l := (nI_ltI (by omega) (by omega)).mp (show nI k < nI l from h19)
      refine mw_go mu_g225 (k := 2) (f1 := (172, [(3, .inl (nI k)), (0, .inr (.inr (some 100))), (1, .inl (9 : Int32)), (2, .inl (nI o))], [.inr (.inr (mu_r Hsd 100 8))], Hsd)) (C := [mu_is Hsd (some 100) 5]) rfl (show mu_is Hsd (some 100) 5 from (ud.1.1.is rfl)) ?_
      rw [(show mu_r Hsd 100 8 = (U.2.2.2.1 100 8) from (ud_q (m := m) (P := 100) (j := 8) dd rfl))]
      refine mw_go mu_g225 (k := 3) (f1 := (175, [(3, .inl (nI k)), (0, .inr (.inr (some 100))), (1, .inl (9 : Int32)), (2, .inl (nI o))], [.inl ((nI o) + (nI k)), .inr (.inr (U.2.2.2.1 100 8))], Hsd)) (C := []) rfl trivial ?_
      rw [(show ((nI o) + (nI k)) = (nI (o + k)) from (nI_add o k))]
      refine mw_go mu_g225 (k := 2) (f1 := (179, [(3, .inl (nI k)), (0, .inr (.inr (some 100))), (1, .inl (9 : Int32)), (2, .inl (nI o))], [.inr (.inr (mu_r Hsd 100 9)), .inl (nI (o + k)), .inr (.inr (U.2.2.2.1 100 8))], Hsd)) (C := [mu_is Hsd (some 100) 5]) rfl (show mu_is Hsd (some 100) 5 from (ud.1.1.is rfl)) ?_
      rw [(ud.1.1.r (p := 100) (j := 9) (q := 107) rfl)]
      refine mw_go mu_g225 (k := 2) (f1 := (181, [(3, .inl (nI k)), (0, .inr (.inr (some 100))), (1, .inl (9 : Int32)), (2, .inl (nI o))], [.inl (mu_i Hsd 107 (nI k).toNatClampNeg), .inl (nI (o + k)), .inr (.inr (U.2.2.2.1 100 8))], Hsd)) (C := [mu_isr Hsd (some 107) 100, vp_in (nI k) (mu_n Hsd 107)]) rfl (show (mu_isr Hsd (some 107) 100) ∧ (vp_in (nI k) (mu_n Hsd 107)) from ⟨((ud.iA dd rfl rfl ((ud_q (m := m) (P := 100) (j := 9) dd rfl).symm.trans (ud.1.1.r (p := 100) (j := 9) (q := 107) rfl)))).r, (by rw [show mu_n Hsd 107 = 1024 from (ud.1.1.a (p := 107) (x := (100, 1024)) rfl).2]; exact vp_in_nI (by omega) (by decide))⟩) ?_
      rw [(show (mu_i Hsd 107 (nI k).toNatClampNeg) = ((U.2.2.1 100 9).2 k) from ((congrArg (mu_i Hsd 107) (nI_clamp (by omega))).trans (ud.gA dd rfl rfl ((ud_q (m := m) (P := 100) (j := 9) dd rfl).symm.trans (ud.1.1.r (p := 100) (j := 9) (q := 107) rfl)))).trans ((congrArg (fun z => z.2 k) (show (upF U 100 8 o (fun i => (((U.2.2.1 100 9).2 i) ^^^ (1 : Int32))) k).2.2.1 100 9 = (U.2.2.1 100 9) from rfl)).trans rfl))]
      refine mw_go mu_g225 (k := 3) (f1 := (184, [(3, .inl (nI k)), (0, .inr (.inr (some 100))), (1, .inl (9 : Int32)), (2, .inl (nI o))], [], (mu_si Hsd (mu_p (U.2.2.2.1 100 8)) (nI (o + k)).toNatClampNeg (((U.2.2.1 100 9).2 k) ^^^ (1 : Int32))))) (C := [mu_is Hsd (U.2.2.2.1 100 8) 100, vp_in (nI (o + k)) (mu_n Hsd (mu_p (U.2.2.2.1 100 8)))]) rfl (show (mu_is Hsd (U.2.2.2.1 100 8) 100) ∧ (vp_in (nI (o + k)) (mu_n Hsd (mu_p (U.2.2.2.1 100 8)))) from ⟨(ud.iA dd rfl rfl (show (upF U 100 8 o (fun i => (((U.2.2.1 100 9).2 i) ^^^ (1 : Int32))) k).2.2.2.1 100 8 = (U.2.2.2.1 100 8) from rfl)), (ud.vA dd rfl rfl (show (upF U 100 8 o (fun i => (((U.2.2.1 100 9).2 i) ^^^ (1 : Int32))) k).2.2.2.1 100 8 = (U.2.2.2.1 100 8) from rfl) (show ((upF U 100 8 o (fun i => (((U.2.2.1 100 9).2 i) ^^^ (1 : Int32))) k).2.2.1 100 8).1 = (U.2.2.1 100 8).1 from rfl) (by omega) (by omega))⟩) ?_
      rw [show (nI (o + k)).toNatClampNeg = o + k from nI_clamp (by omega)]
      obtain ⟨u20, r20, d20⟩ : um m (mu_si Hsd (mu_p (U.2.2.2.1 100 8)) (o + k) (((U.2.2.1 100 9).2 k) ^^^ (1 : Int32))) ∧ ur m C Hsd (mu_si Hsd (mu_p (U.2.2.2.1 100 8)) (o + k) (((U.2.2.1 100 9).2 k) ^^^ (1 : Int32))) ∧ ud m (mu_si Hsd (mu_p (U.2.2.2.1 100 8)) (o + k) (((U.2.2.1 100 9).2 k) ^^^ (1 : Int32))) = (upA (upF U 100 8 o (fun i => (((U.2.2.1 100 9).2 i) ^^^ (1 : Int32))) k) 100 8 (o + k) (((U.2.2.1 100 9).2 k) ^^^ (1 : Int32))) := ud.sA (C := C) dd rfl rfl (show (upF U 100 8 o (fun i => (((U.2.2.1 100 9).2 i) ^^^ (1 : Int32))) k).2.2.2.1 100 8 = (U.2.2.2.1 100 8) from rfl)
      generalize (mu_si Hsd (mu_p (U.2.2.2.1 100 8)) (o + k) (((U.2.2.1 100 9).2 k) ^^^ (1 : Int32))) = Q20 at u20 r20 d20 ⊢
      have ht20 : ur m C H Q20 := htd.trans r20
      refine mw_go mu_g225 (k := 1) (f1 := (187, [(3, .inl ((nI k) + 1)), (0, .inr (.inr (some 100))), (1, .inl (9 : Int32)), (2, .inl (nI o))], [], Q20)) (C := []) rfl trivial ?_
      rw [(show ((nI k) + 1) = (nI (k + 1)) from (nI_add k 1))]
      refine mw_go mu_g225 (k := 1) (f1 := (160, [(3, .inl (nI (k + 1))), (0, .inr (.inr (some 100))), (1, .inl (9 : Int32)), (2, .inl (nI o))], [], Q20)) (C := []) rfl trivial ?_
      exact mw_sub (by simp) (ihd (k + 1, Q20) ⟨u20, ht20, (show ud m Q20 = (upF U 100 8 o (fun i => (((U.2.2.1 100 9).2 i) ^^^ (1 : Int32))) (k + 1)) from (by rw [d20]; exact upF_next)), (show (k + 1) ≤ l from (by omega))⟩ (by show l - (k + 1) < l - k; omega))
    · -- 190: not (nI k) < (nI l)
      have nh19 : ¬ k < l := fun z => h19 (show nI k < nI l from (nI_ltI (by omega) (by omega)).mpr z)
      refine mw_go mu_g225 (k := 1) (f1 := (265, [(3, .inl (nI k)), (0, .inr (.inr (some 100))), (1, .inl (9 : Int32)), (2, .inl (nI o))], [], Hsd)) (C := []) rfl trivial ?_
      exact mw_of (fun _ => mu_ret rfl trivial ⟨Hsd, rfl, ud, htd, (by rw [dd]; exact upF_to (by omega) rfl)⟩)
/-- PathProver$Machine.joinNumbers(II)V -/
abbrev mu_m227 : ev_M := (6, none, [], ev_b227)
theorem mu_g227 : mu_good mu_m227 := mu_goodk ev_k227
theorem mc_numbers (h : um m H) (e : ud m H = U) (hx : mx U A W l) {op : Int32} (ho : o + l ≤ (U.2.2.1 100 8).1) : mu_TV (mu_D (d + 1)) 227 [.inr (.inr (some 100)), .inl op, .inl (nI o)] H (fun H1 => um m H1 ∧ ur m C H H1 ∧ ud m H1 = upF U 100 8 o (fun k => jN op ((U.2.2.1 100 9).2 k) ((U.2.2.1 100 10).2 k)) l) := by
  obtain ⟨hW, hl, hl1, hlW, hW2, hA8, c8, hA12, c12⟩ := hx
  refine mu_meth (M := mu_m227) rfl rfl ?_
  refine mw_ht (mu_fn_of (show [0, 1, 2].Nodup by decide)) ?_
  refine mw_go mu_g227 (k := 1) (f1 := (1, [(0, .inr (.inr (some 100))), (1, .inl op), (2, .inl (nI o))], [.inl op], H)) (C := []) rfl trivial ?_
  refine mw_tsw2 rfl (by decide) (fun hy => ?_) ⟨fun z => ?_, fun z => ?_, fun z => ?_, fun z => ?_, fun z => ?_, fun z => ?_, fun z => ?_, fun z => ?_, fun z => ?_, fun z => ?_, trivial⟩
  · skip
    have e18 : ¬ op = (18 : Int32) := fun y => by rw [y] at hy; revert hy; decide
    have e19 : ¬ op = (19 : Int32) := fun y => by rw [y] at hy; revert hy; decide
    have e20 : ¬ op = (20 : Int32) := fun y => by rw [y] at hy; revert hy; decide
    have e21 : ¬ op = (21 : Int32) := fun y => by rw [y] at hy; revert hy; decide
    have e22 : ¬ op = (22 : Int32) := fun y => by rw [y] at hy; revert hy; decide
    have e23 : ¬ op = (23 : Int32) := fun y => by rw [y] at hy; revert hy; decide
    have e24 : ¬ op = (24 : Int32) := fun y => by rw [y] at hy; revert hy; decide
    have e25 : ¬ op = (25 : Int32) := fun y => by rw [y] at hy; revert hy; decide
    have e26 : ¬ op = (26 : Int32) := fun y => by rw [y] at hy; revert hy; decide
    have e27 : ¬ op = (27 : Int32) := fun y => by rw [y] at hy; revert hy; decide
    refine mw_go mu_g227 (k := 2) (f1 := (279, [(0, .inr (.inr (some 100))), (1, .inl op), (2, .inl (nI o))], [.inl (19 : Int32), .inl op], H)) (C := []) rfl trivial ?_
    refine mw_if (P := op = (19 : Int32)) (a := 282) (b := 286) (fun _ => rfl) trivial (fun h1 => absurd h1 e19) (fun h1 => ?_)
    refine mw_go mu_g227 (k := 4) (f1 := (292, [(5, .inl (0 : Int32)), (4, .inl (0 : Int32)), (0, .inr (.inr (some 100))), (1, .inl op), (2, .inl (nI o))], [], H)) (C := []) rfl trivial ?_
    show mu_W _ _ (292, [(5, .inl (nI 0)), (4, .inl (0 : Int32)), (0, .inr (.inr (some 100))), (1, .inl op), (2, .inl (nI o))], [], H) _
    refine mw_sub (L' := [(5, .inl (nI 0)), (0, .inr (.inr (some 100))), (1, .inl op), (2, .inl (nI o)), (4, .inl (0 : Int32))]) (by simp) ?_
    refine mw_down (α := Nat × mu_H) (fun zs => (292, [(5, .inl (nI zs.1)), (0, .inr (.inr (some 100))), (1, .inl op), (2, .inl (nI o)), (4, .inl (0 : Int32))], [], zs.2)) (fun zs => l - zs.1) (fun zs => um m zs.2 ∧ ur m C H zs.2 ∧ (ud m zs.2 = (upF U 100 8 o (fun i => (((((U.2.2.1 100 10).2 i) - ((U.2.2.1 100 9).2 i)).toUInt32 >>> ((31 : Int32).toUInt32 &&& Int32.toUInt32 31)).toInt32 ^^^ (0 : Int32))) zs.1)) ∧ (zs.1 ≤ l)) (fun zs hzf ihf => ?_) (0, H) ⟨h, (ur.refl m C H), (show ud m H = (upF U 100 8 o (fun i => (((((U.2.2.1 100 10).2 i) - ((U.2.2.1 100 9).2 i)).toUInt32 >>> ((31 : Int32).toUInt32 &&& Int32.toUInt32 31)).toInt32 ^^^ (0 : Int32))) 0) from (by rw [e]; exact upF_zero.symm)), (show 0 ≤ l from (by omega))⟩
    obtain ⟨k, Hsf⟩ := zs
    obtain ⟨uf, htf, df, hk⟩ := hzf
    have uf : um m Hsf := uf
    have htf : ur m C H Hsf := htf
    have df : ud m Hsf = (upF U 100 8 o (fun i => (((((U.2.2.1 100 10).2 i) - ((U.2.2.1 100 9).2 i)).toUInt32 >>> ((31 : Int32).toUInt32 &&& Int32.toUInt32 31)).toInt32 ^^^ (0 : Int32))) k) := df
    have hk : k ≤ l := hk
    show mu_W _ _ (292, [(5, .inl (nI k)), (0, .inr (.inr (some 100))), (1, .inl op), (2, .inl (nI o)), (4, .inl (0 : Int32))], [], Hsf) _
    refine mw_go mu_g227 (k := 3) (f1 := (298, [(5, .inl (nI k)), (0, .inr (.inr (some 100))), (1, .inl op), (2, .inl (nI o)), (4, .inl (0 : Int32))], [.inl (mu_i Hsf 100 18), .inl (nI k)], Hsf)) (C := [mu_is Hsf (some 100) 5]) rfl (show mu_is Hsf (some 100) 5 from (uf.1.1.is rfl)) ?_
    rw [(show mu_i Hsf 100 18 = (nI l) from (ud_i (m := m) (P := 100) (j := 18) df rfl).trans hl)]
    refine mw_if (P := (nI k) < (nI l)) (a := 301) (b := 337) (fun _ => rfl) trivial (fun h2 => ?_) (fun h2 => ?_)
    · -- 301: (nI k) < (nI l)
      have nh2 : k < l := (nI_ltI (by omega) (by omega)).mp (show nI k < nI l from h2)
      refine mw_go mu_g227 (k := 2) (f1 := (305, [(5, .inl (nI k)), (0, .inr (.inr (some 100))), (1, .inl op), (2, .inl (nI o)), (4, .inl (0 : Int32))], [.inr (.inr (mu_r Hsf 100 8))], Hsf)) (C := [mu_is Hsf (some 100) 5]) rfl (show mu_is Hsf (some 100) 5 from (uf.1.1.is rfl)) ?_
      rw [(show mu_r Hsf 100 8 = (U.2.2.2.1 100 8) from (ud_q (m := m) (P := 100) (j := 8) df rfl))]
      refine mw_go mu_g227 (k := 3) (f1 := (309, [(5, .inl (nI k)), (0, .inr (.inr (some 100))), (1, .inl op), (2, .inl (nI o)), (4, .inl (0 : Int32))], [.inl ((nI o) + (nI k)), .inr (.inr (U.2.2.2.1 100 8))], Hsf)) (C := []) rfl trivial ?_
      rw [(show ((nI o) + (nI k)) = (nI (o + k)) from (nI_add o k))]
      refine mw_go mu_g227 (k := 2) (f1 := (313, [(5, .inl (nI k)), (0, .inr (.inr (some 100))), (1, .inl op), (2, .inl (nI o)), (4, .inl (0 : Int32))], [.inr (.inr (mu_r Hsf 100 10)), .inl (nI (o + k)), .inr (.inr (U.2.2.2.1 100 8))], Hsf)) (C := [mu_is Hsf (some 100) 5]) rfl (show mu_is Hsf (some 100) 5 from (uf.1.1.is rfl)) ?_
      rw [(uf.1.1.r (p := 100) (j := 10) (q := 108) rfl)]
      refine mw_go mu_g227 (k := 2) (f1 := (316, [(5, .inl (nI k)), (0, .inr (.inr (some 100))), (1, .inl op), (2, .inl (nI o)), (4, .inl (0 : Int32))], [.inl (mu_i Hsf 108 (nI k).toNatClampNeg), .inl (nI (o + k)), .inr (.inr (U.2.2.2.1 100 8))], Hsf)) (C := [mu_isr Hsf (some 108) 100, vp_in (nI k) (mu_n Hsf 108)]) rfl (show (mu_isr Hsf (some 108) 100) ∧ (vp_in (nI k) (mu_n Hsf 108)) from ⟨((uf.iA df rfl rfl ((ud_q (m := m) (P := 100) (j := 10) df rfl).symm.trans (uf.1.1.r (p := 100) (j := 10) (q := 108) rfl)))).r, (by rw [show mu_n Hsf 108 = 1024 from (uf.1.1.a (p := 108) (x := (100, 1024)) rfl).2]; exact vp_in_nI (by omega) (by decide))⟩) ?_
      rw [(show (mu_i Hsf 108 (nI k).toNatClampNeg) = ((U.2.2.1 100 10).2 k) from ((congrArg (mu_i Hsf 108) (nI_clamp (by omega))).trans (uf.gA df rfl rfl ((ud_q (m := m) (P := 100) (j := 10) df rfl).symm.trans (uf.1.1.r (p := 100) (j := 10) (q := 108) rfl)))).trans ((congrArg (fun z => z.2 k) (show (upF U 100 8 o (fun i => (((((U.2.2.1 100 10).2 i) - ((U.2.2.1 100 9).2 i)).toUInt32 >>> ((31 : Int32).toUInt32 &&& Int32.toUInt32 31)).toInt32 ^^^ (0 : Int32))) k).2.2.1 100 10 = (U.2.2.1 100 10) from rfl)).trans rfl))]
      refine mw_go mu_g227 (k := 2) (f1 := (320, [(5, .inl (nI k)), (0, .inr (.inr (some 100))), (1, .inl op), (2, .inl (nI o)), (4, .inl (0 : Int32))], [.inr (.inr (mu_r Hsf 100 9)), .inl ((U.2.2.1 100 10).2 k), .inl (nI (o + k)), .inr (.inr (U.2.2.2.1 100 8))], Hsf)) (C := [mu_is Hsf (some 100) 5]) rfl (show mu_is Hsf (some 100) 5 from (uf.1.1.is rfl)) ?_
      rw [(uf.1.1.r (p := 100) (j := 9) (q := 107) rfl)]
      refine mw_go mu_g227 (k := 2) (f1 := (323, [(5, .inl (nI k)), (0, .inr (.inr (some 100))), (1, .inl op), (2, .inl (nI o)), (4, .inl (0 : Int32))], [.inl (mu_i Hsf 107 (nI k).toNatClampNeg), .inl ((U.2.2.1 100 10).2 k), .inl (nI (o + k)), .inr (.inr (U.2.2.2.1 100 8))], Hsf)) (C := [mu_isr Hsf (some 107) 100, vp_in (nI k) (mu_n Hsf 107)]) rfl (show (mu_isr Hsf (some 107) 100) ∧ (vp_in (nI k) (mu_n Hsf 107)) from ⟨((uf.iA df rfl rfl ((ud_q (m := m) (P := 100) (j := 9) df rfl).symm.trans (uf.1.1.r (p := 100) (j := 9) (q := 107) rfl)))).r, (by rw [show mu_n Hsf 107 = 1024 from (uf.1.1.a (p := 107) (x := (100, 1024)) rfl).2]; exact vp_in_nI (by omega) (by decide))⟩) ?_
      rw [(show (mu_i Hsf 107 (nI k).toNatClampNeg) = ((U.2.2.1 100 9).2 k) from ((congrArg (mu_i Hsf 107) (nI_clamp (by omega))).trans (uf.gA df rfl rfl ((ud_q (m := m) (P := 100) (j := 9) df rfl).symm.trans (uf.1.1.r (p := 100) (j := 9) (q := 107) rfl)))).trans ((congrArg (fun z => z.2 k) (show (upF U 100 8 o (fun i => (((((U.2.2.1 100 10).2 i) - ((U.2.2.1 100 9).2 i)).toUInt32 >>> ((31 : Int32).toUInt32 &&& Int32.toUInt32 31)).toInt32 ^^^ (0 : Int32))) k).2.2.1 100 9 = (U.2.2.1 100 9) from rfl)).trans rfl))]
      refine mw_go mu_g227 (k := 6) (f1 := (331, [(5, .inl (nI k)), (0, .inr (.inr (some 100))), (1, .inl op), (2, .inl (nI o)), (4, .inl (0 : Int32))], [], (mu_si Hsf (mu_p (U.2.2.2.1 100 8)) (nI (o + k)).toNatClampNeg ((((((U.2.2.1 100 10).2 k) - ((U.2.2.1 100 9).2 k)).toUInt32 >>> ((31 : Int32).toUInt32 &&& Int32.toUInt32 31)).toInt32) ^^^ (0 : Int32))))) (C := [mu_is Hsf (U.2.2.2.1 100 8) 100, vp_in (nI (o + k)) (mu_n Hsf (mu_p (U.2.2.2.1 100 8)))]) rfl (show (mu_is Hsf (U.2.2.2.1 100 8) 100) ∧ (vp_in (nI (o + k)) (mu_n Hsf (mu_p (U.2.2.2.1 100 8)))) from ⟨(uf.iA df rfl rfl (show (upF U 100 8 o (fun i => (((((U.2.2.1 100 10).2 i) - ((U.2.2.1 100 9).2 i)).toUInt32 >>> ((31 : Int32).toUInt32 &&& Int32.toUInt32 31)).toInt32 ^^^ (0 : Int32))) k).2.2.2.1 100 8 = (U.2.2.2.1 100 8) from rfl)), (uf.vA df rfl rfl (show (upF U 100 8 o (fun i => (((((U.2.2.1 100 10).2 i) - ((U.2.2.1 100 9).2 i)).toUInt32 >>> ((31 : Int32).toUInt32 &&& Int32.toUInt32 31)).toInt32 ^^^ (0 : Int32))) k).2.2.2.1 100 8 = (U.2.2.2.1 100 8) from rfl) (show ((upF U 100 8 o (fun i => (((((U.2.2.1 100 10).2 i) - ((U.2.2.1 100 9).2 i)).toUInt32 >>> ((31 : Int32).toUInt32 &&& Int32.toUInt32 31)).toInt32 ^^^ (0 : Int32))) k).2.2.1 100 8).1 = (U.2.2.1 100 8).1 from rfl) (by omega) (by omega))⟩) ?_
      rw [show (nI (o + k)).toNatClampNeg = o + k from nI_clamp (by omega)]
      obtain ⟨u3, r3, d3⟩ : um m (mu_si Hsf (mu_p (U.2.2.2.1 100 8)) (o + k) ((((((U.2.2.1 100 10).2 k) - ((U.2.2.1 100 9).2 k)).toUInt32 >>> ((31 : Int32).toUInt32 &&& Int32.toUInt32 31)).toInt32) ^^^ (0 : Int32))) ∧ ur m C Hsf (mu_si Hsf (mu_p (U.2.2.2.1 100 8)) (o + k) ((((((U.2.2.1 100 10).2 k) - ((U.2.2.1 100 9).2 k)).toUInt32 >>> ((31 : Int32).toUInt32 &&& Int32.toUInt32 31)).toInt32) ^^^ (0 : Int32))) ∧ ud m (mu_si Hsf (mu_p (U.2.2.2.1 100 8)) (o + k) ((((((U.2.2.1 100 10).2 k) - ((U.2.2.1 100 9).2 k)).toUInt32 >>> ((31 : Int32).toUInt32 &&& Int32.toUInt32 31)).toInt32) ^^^ (0 : Int32))) = (upA (upF U 100 8 o (fun i => (((((U.2.2.1 100 10).2 i) - ((U.2.2.1 100 9).2 i)).toUInt32 >>> ((31 : Int32).toUInt32 &&& Int32.toUInt32 31)).toInt32 ^^^ (0 : Int32))) k) 100 8 (o + k) ((((((U.2.2.1 100 10).2 k) - ((U.2.2.1 100 9).2 k)).toUInt32 >>> ((31 : Int32).toUInt32 &&& Int32.toUInt32 31)).toInt32) ^^^ (0 : Int32))) := uf.sA (C := C) df rfl rfl (show (upF U 100 8 o (fun i => (((((U.2.2.1 100 10).2 i) - ((U.2.2.1 100 9).2 i)).toUInt32 >>> ((31 : Int32).toUInt32 &&& Int32.toUInt32 31)).toInt32 ^^^ (0 : Int32))) k).2.2.2.1 100 8 = (U.2.2.2.1 100 8) from rfl)
      generalize (mu_si Hsf (mu_p (U.2.2.2.1 100 8)) (o + k) ((((((U.2.2.1 100 10).2 k) - ((U.2.2.1 100 9).2 k)).toUInt32 >>> ((31 : Int32).toUInt32 &&& Int32.toUInt32 31)).toInt32) ^^^ (0 : Int32))) = Q3 at u3 r3 d3 ⊢
      have ht3 : ur m C H Q3 := htf.trans r3
      refine mw_go mu_g227 (k := 1) (f1 := (334, [(5, .inl ((nI k) + 1)), (0, .inr (.inr (some 100))), (1, .inl op), (2, .inl (nI o)), (4, .inl (0 : Int32))], [], Q3)) (C := []) rfl trivial ?_
      rw [(show ((nI k) + 1) = (nI (k + 1)) from (nI_add k 1))]
      refine mw_go mu_g227 (k := 1) (f1 := (292, [(5, .inl (nI (k + 1))), (0, .inr (.inr (some 100))), (1, .inl op), (2, .inl (nI o)), (4, .inl (0 : Int32))], [], Q3)) (C := []) rfl trivial ?_
      exact mw_sub (by simp) (ihf (k + 1, Q3) ⟨u3, ht3, (show ud m Q3 = (upF U 100 8 o (fun i => (((((U.2.2.1 100 10).2 i) - ((U.2.2.1 100 9).2 i)).toUInt32 >>> ((31 : Int32).toUInt32 &&& Int32.toUInt32 31)).toInt32 ^^^ (0 : Int32))) (k + 1)) from (by rw [d3]; exact upF_next)), (show (k + 1) ≤ l from (by omega))⟩ (by show l - (k + 1) < l - k; omega))
    · -- 337: not (nI k) < (nI l)
      have nh2 : ¬ k < l := fun z => h2 (show nI k < nI l from (nI_ltI (by omega) (by omega)).mpr z)
      exact mw_of (fun _ => mu_ret rfl trivial ⟨Hsf, rfl, uf, htf, (by rw [df]; exact upF_to (by omega) (funext fun i => by unfold jN; rw [if_neg e22, if_neg e23, if_neg e24, if_neg e27, if_neg (fun y => y.elim e18 e21), if_neg e19]; rfl))⟩)
  · obtain rfl : op = (18 : Int32) := Int32.toInt_inj.mp (z.trans (by decide))
    refine mw_go mu_g227 (k := 2) (f1 := (217, [(0, .inr (.inr (some 100))), (1, .inl (18 : Int32)), (2, .inl (nI o))], [.inl (21 : Int32), .inl (18 : Int32)], H)) (C := []) rfl trivial ?_
    refine mw_if (P := (18 : Int32) = (21 : Int32)) (a := 220) (b := 224) (fun _ => rfl) trivial (fun h4 => absurd h4 (by decide)) (fun h4 => ?_)
    refine mw_go mu_g227 (k := 4) (f1 := (229, [(4, .inl (0 : Int32)), (3, .inl (0 : Int32)), (0, .inr (.inr (some 100))), (1, .inl (18 : Int32)), (2, .inl (nI o))], [], H)) (C := []) rfl trivial ?_
    show mu_W _ _ (229, [(4, .inl (nI 0)), (3, .inl (0 : Int32)), (0, .inr (.inr (some 100))), (1, .inl (18 : Int32)), (2, .inl (nI o))], [], H) _
    refine mw_sub (L' := [(4, .inl (nI 0)), (0, .inr (.inr (some 100))), (1, .inl (18 : Int32)), (2, .inl (nI o)), (3, .inl (0 : Int32))]) (by simp) ?_
    refine mw_down (α := Nat × mu_H) (fun zs => (229, [(4, .inl (nI zs.1)), (0, .inr (.inr (some 100))), (1, .inl (18 : Int32)), (2, .inl (nI o)), (3, .inl (0 : Int32))], [], zs.2)) (fun zs => l - zs.1) (fun zs => um m zs.2 ∧ ur m C H zs.2 ∧ (ud m zs.2 = (upF U 100 8 o (fun i => (((((U.2.2.1 100 9).2 i) - ((U.2.2.1 100 10).2 i)).toUInt32 >>> ((31 : Int32).toUInt32 &&& Int32.toUInt32 31)).toInt32 ^^^ (0 : Int32))) zs.1)) ∧ (zs.1 ≤ l)) (fun zs hze ihe => ?_) (0, H) ⟨h, (ur.refl m C H), (show ud m H = (upF U 100 8 o (fun i => (((((U.2.2.1 100 9).2 i) - ((U.2.2.1 100 10).2 i)).toUInt32 >>> ((31 : Int32).toUInt32 &&& Int32.toUInt32 31)).toInt32 ^^^ (0 : Int32))) 0) from (by rw [e]; exact upF_zero.symm)), (show 0 ≤ l from (by omega))⟩
    obtain ⟨k, Hse⟩ := zs
    obtain ⟨ue, hte, de, hk⟩ := hze
    have ue : um m Hse := ue
    have hte : ur m C H Hse := hte
    have de : ud m Hse = (upF U 100 8 o (fun i => (((((U.2.2.1 100 9).2 i) - ((U.2.2.1 100 10).2 i)).toUInt32 >>> ((31 : Int32).toUInt32 &&& Int32.toUInt32 31)).toInt32 ^^^ (0 : Int32))) k) := de
    have hk : k ≤ l := hk
    show mu_W _ _ (229, [(4, .inl (nI k)), (0, .inr (.inr (some 100))), (1, .inl (18 : Int32)), (2, .inl (nI o)), (3, .inl (0 : Int32))], [], Hse) _
    refine mw_go mu_g227 (k := 3) (f1 := (235, [(4, .inl (nI k)), (0, .inr (.inr (some 100))), (1, .inl (18 : Int32)), (2, .inl (nI o)), (3, .inl (0 : Int32))], [.inl (mu_i Hse 100 18), .inl (nI k)], Hse)) (C := [mu_is Hse (some 100) 5]) rfl (show mu_is Hse (some 100) 5 from (ue.1.1.is rfl)) ?_
    rw [(show mu_i Hse 100 18 = (nI l) from (ud_i (m := m) (P := 100) (j := 18) de rfl).trans hl)]
    refine mw_if (P := (nI k) < (nI l)) (a := 238) (b := 273) (fun _ => rfl) trivial (fun h5 => ?_) (fun h5 => ?_)
    · -- 238: (nI k) < (nI l)
      have nh5 : k < l := (nI_ltI (by omega) (by omega)).mp (show nI k < nI l from h5)
      refine mw_go mu_g227 (k := 2) (f1 := (242, [(4, .inl (nI k)), (0, .inr (.inr (some 100))), (1, .inl (18 : Int32)), (2, .inl (nI o)), (3, .inl (0 : Int32))], [.inr (.inr (mu_r Hse 100 8))], Hse)) (C := [mu_is Hse (some 100) 5]) rfl (show mu_is Hse (some 100) 5 from (ue.1.1.is rfl)) ?_
      rw [(show mu_r Hse 100 8 = (U.2.2.2.1 100 8) from (ud_q (m := m) (P := 100) (j := 8) de rfl))]
      refine mw_go mu_g227 (k := 3) (f1 := (246, [(4, .inl (nI k)), (0, .inr (.inr (some 100))), (1, .inl (18 : Int32)), (2, .inl (nI o)), (3, .inl (0 : Int32))], [.inl ((nI o) + (nI k)), .inr (.inr (U.2.2.2.1 100 8))], Hse)) (C := []) rfl trivial ?_
      rw [(show ((nI o) + (nI k)) = (nI (o + k)) from (nI_add o k))]
      refine mw_go mu_g227 (k := 2) (f1 := (250, [(4, .inl (nI k)), (0, .inr (.inr (some 100))), (1, .inl (18 : Int32)), (2, .inl (nI o)), (3, .inl (0 : Int32))], [.inr (.inr (mu_r Hse 100 9)), .inl (nI (o + k)), .inr (.inr (U.2.2.2.1 100 8))], Hse)) (C := [mu_is Hse (some 100) 5]) rfl (show mu_is Hse (some 100) 5 from (ue.1.1.is rfl)) ?_
      rw [(ue.1.1.r (p := 100) (j := 9) (q := 107) rfl)]
      refine mw_go mu_g227 (k := 2) (f1 := (253, [(4, .inl (nI k)), (0, .inr (.inr (some 100))), (1, .inl (18 : Int32)), (2, .inl (nI o)), (3, .inl (0 : Int32))], [.inl (mu_i Hse 107 (nI k).toNatClampNeg), .inl (nI (o + k)), .inr (.inr (U.2.2.2.1 100 8))], Hse)) (C := [mu_isr Hse (some 107) 100, vp_in (nI k) (mu_n Hse 107)]) rfl (show (mu_isr Hse (some 107) 100) ∧ (vp_in (nI k) (mu_n Hse 107)) from ⟨((ue.iA de rfl rfl ((ud_q (m := m) (P := 100) (j := 9) de rfl).symm.trans (ue.1.1.r (p := 100) (j := 9) (q := 107) rfl)))).r, (by rw [show mu_n Hse 107 = 1024 from (ue.1.1.a (p := 107) (x := (100, 1024)) rfl).2]; exact vp_in_nI (by omega) (by decide))⟩) ?_
      rw [(show (mu_i Hse 107 (nI k).toNatClampNeg) = ((U.2.2.1 100 9).2 k) from ((congrArg (mu_i Hse 107) (nI_clamp (by omega))).trans (ue.gA de rfl rfl ((ud_q (m := m) (P := 100) (j := 9) de rfl).symm.trans (ue.1.1.r (p := 100) (j := 9) (q := 107) rfl)))).trans ((congrArg (fun z => z.2 k) (show (upF U 100 8 o (fun i => (((((U.2.2.1 100 9).2 i) - ((U.2.2.1 100 10).2 i)).toUInt32 >>> ((31 : Int32).toUInt32 &&& Int32.toUInt32 31)).toInt32 ^^^ (0 : Int32))) k).2.2.1 100 9 = (U.2.2.1 100 9) from rfl)).trans rfl))]
      refine mw_go mu_g227 (k := 2) (f1 := (257, [(4, .inl (nI k)), (0, .inr (.inr (some 100))), (1, .inl (18 : Int32)), (2, .inl (nI o)), (3, .inl (0 : Int32))], [.inr (.inr (mu_r Hse 100 10)), .inl ((U.2.2.1 100 9).2 k), .inl (nI (o + k)), .inr (.inr (U.2.2.2.1 100 8))], Hse)) (C := [mu_is Hse (some 100) 5]) rfl (show mu_is Hse (some 100) 5 from (ue.1.1.is rfl)) ?_
      rw [(ue.1.1.r (p := 100) (j := 10) (q := 108) rfl)]
      refine mw_go mu_g227 (k := 2) (f1 := (260, [(4, .inl (nI k)), (0, .inr (.inr (some 100))), (1, .inl (18 : Int32)), (2, .inl (nI o)), (3, .inl (0 : Int32))], [.inl (mu_i Hse 108 (nI k).toNatClampNeg), .inl ((U.2.2.1 100 9).2 k), .inl (nI (o + k)), .inr (.inr (U.2.2.2.1 100 8))], Hse)) (C := [mu_isr Hse (some 108) 100, vp_in (nI k) (mu_n Hse 108)]) rfl (show (mu_isr Hse (some 108) 100) ∧ (vp_in (nI k) (mu_n Hse 108)) from ⟨((ue.iA de rfl rfl ((ud_q (m := m) (P := 100) (j := 10) de rfl).symm.trans (ue.1.1.r (p := 100) (j := 10) (q := 108) rfl)))).r, (by rw [show mu_n Hse 108 = 1024 from (ue.1.1.a (p := 108) (x := (100, 1024)) rfl).2]; exact vp_in_nI (by omega) (by decide))⟩) ?_
      rw [(show (mu_i Hse 108 (nI k).toNatClampNeg) = ((U.2.2.1 100 10).2 k) from ((congrArg (mu_i Hse 108) (nI_clamp (by omega))).trans (ue.gA de rfl rfl ((ud_q (m := m) (P := 100) (j := 10) de rfl).symm.trans (ue.1.1.r (p := 100) (j := 10) (q := 108) rfl)))).trans ((congrArg (fun z => z.2 k) (show (upF U 100 8 o (fun i => (((((U.2.2.1 100 9).2 i) - ((U.2.2.1 100 10).2 i)).toUInt32 >>> ((31 : Int32).toUInt32 &&& Int32.toUInt32 31)).toInt32 ^^^ (0 : Int32))) k).2.2.1 100 10 = (U.2.2.1 100 10) from rfl)).trans rfl))]
      refine mw_go mu_g227 (k := 6) (f1 := (267, [(4, .inl (nI k)), (0, .inr (.inr (some 100))), (1, .inl (18 : Int32)), (2, .inl (nI o)), (3, .inl (0 : Int32))], [], (mu_si Hse (mu_p (U.2.2.2.1 100 8)) (nI (o + k)).toNatClampNeg ((((((U.2.2.1 100 9).2 k) - ((U.2.2.1 100 10).2 k)).toUInt32 >>> ((31 : Int32).toUInt32 &&& Int32.toUInt32 31)).toInt32) ^^^ (0 : Int32))))) (C := [mu_is Hse (U.2.2.2.1 100 8) 100, vp_in (nI (o + k)) (mu_n Hse (mu_p (U.2.2.2.1 100 8)))]) rfl (show (mu_is Hse (U.2.2.2.1 100 8) 100) ∧ (vp_in (nI (o + k)) (mu_n Hse (mu_p (U.2.2.2.1 100 8)))) from ⟨(ue.iA de rfl rfl (show (upF U 100 8 o (fun i => (((((U.2.2.1 100 9).2 i) - ((U.2.2.1 100 10).2 i)).toUInt32 >>> ((31 : Int32).toUInt32 &&& Int32.toUInt32 31)).toInt32 ^^^ (0 : Int32))) k).2.2.2.1 100 8 = (U.2.2.2.1 100 8) from rfl)), (ue.vA de rfl rfl (show (upF U 100 8 o (fun i => (((((U.2.2.1 100 9).2 i) - ((U.2.2.1 100 10).2 i)).toUInt32 >>> ((31 : Int32).toUInt32 &&& Int32.toUInt32 31)).toInt32 ^^^ (0 : Int32))) k).2.2.2.1 100 8 = (U.2.2.2.1 100 8) from rfl) (show ((upF U 100 8 o (fun i => (((((U.2.2.1 100 9).2 i) - ((U.2.2.1 100 10).2 i)).toUInt32 >>> ((31 : Int32).toUInt32 &&& Int32.toUInt32 31)).toInt32 ^^^ (0 : Int32))) k).2.2.1 100 8).1 = (U.2.2.1 100 8).1 from rfl) (by omega) (by omega))⟩) ?_
      rw [show (nI (o + k)).toNatClampNeg = o + k from nI_clamp (by omega)]
      obtain ⟨u6, r6, d6⟩ : um m (mu_si Hse (mu_p (U.2.2.2.1 100 8)) (o + k) ((((((U.2.2.1 100 9).2 k) - ((U.2.2.1 100 10).2 k)).toUInt32 >>> ((31 : Int32).toUInt32 &&& Int32.toUInt32 31)).toInt32) ^^^ (0 : Int32))) ∧ ur m C Hse (mu_si Hse (mu_p (U.2.2.2.1 100 8)) (o + k) ((((((U.2.2.1 100 9).2 k) - ((U.2.2.1 100 10).2 k)).toUInt32 >>> ((31 : Int32).toUInt32 &&& Int32.toUInt32 31)).toInt32) ^^^ (0 : Int32))) ∧ ud m (mu_si Hse (mu_p (U.2.2.2.1 100 8)) (o + k) ((((((U.2.2.1 100 9).2 k) - ((U.2.2.1 100 10).2 k)).toUInt32 >>> ((31 : Int32).toUInt32 &&& Int32.toUInt32 31)).toInt32) ^^^ (0 : Int32))) = (upA (upF U 100 8 o (fun i => (((((U.2.2.1 100 9).2 i) - ((U.2.2.1 100 10).2 i)).toUInt32 >>> ((31 : Int32).toUInt32 &&& Int32.toUInt32 31)).toInt32 ^^^ (0 : Int32))) k) 100 8 (o + k) ((((((U.2.2.1 100 9).2 k) - ((U.2.2.1 100 10).2 k)).toUInt32 >>> ((31 : Int32).toUInt32 &&& Int32.toUInt32 31)).toInt32) ^^^ (0 : Int32))) := ue.sA (C := C) de rfl rfl (show (upF U 100 8 o (fun i => (((((U.2.2.1 100 9).2 i) - ((U.2.2.1 100 10).2 i)).toUInt32 >>> ((31 : Int32).toUInt32 &&& Int32.toUInt32 31)).toInt32 ^^^ (0 : Int32))) k).2.2.2.1 100 8 = (U.2.2.2.1 100 8) from rfl)
      generalize (mu_si Hse (mu_p (U.2.2.2.1 100 8)) (o + k) ((((((U.2.2.1 100 9).2 k) - ((U.2.2.1 100 10).2 k)).toUInt32 >>> ((31 : Int32).toUInt32 &&& Int32.toUInt32 31)).toInt32) ^^^ (0 : Int32))) = Q6 at u6 r6 d6 ⊢
      have ht6 : ur m C H Q6 := hte.trans r6
      refine mw_go mu_g227 (k := 1) (f1 := (270, [(4, .inl ((nI k) + 1)), (0, .inr (.inr (some 100))), (1, .inl (18 : Int32)), (2, .inl (nI o)), (3, .inl (0 : Int32))], [], Q6)) (C := []) rfl trivial ?_
      rw [(show ((nI k) + 1) = (nI (k + 1)) from (nI_add k 1))]
      refine mw_go mu_g227 (k := 1) (f1 := (229, [(4, .inl (nI (k + 1))), (0, .inr (.inr (some 100))), (1, .inl (18 : Int32)), (2, .inl (nI o)), (3, .inl (0 : Int32))], [], Q6)) (C := []) rfl trivial ?_
      exact mw_sub (by simp) (ihe (k + 1, Q6) ⟨u6, ht6, (show ud m Q6 = (upF U 100 8 o (fun i => (((((U.2.2.1 100 9).2 i) - ((U.2.2.1 100 10).2 i)).toUInt32 >>> ((31 : Int32).toUInt32 &&& Int32.toUInt32 31)).toInt32 ^^^ (0 : Int32))) (k + 1)) from (by rw [d6]; exact upF_next)), (show (k + 1) ≤ l from (by omega))⟩ (by show l - (k + 1) < l - k; omega))
    · -- 273: not (nI k) < (nI l)
      have nh5 : ¬ k < l := fun z => h5 (show nI k < nI l from (nI_ltI (by omega) (by omega)).mpr z)
      refine mw_go mu_g227 (k := 1) (f1 := (337, [(4, .inl (nI k)), (0, .inr (.inr (some 100))), (1, .inl (18 : Int32)), (2, .inl (nI o)), (3, .inl (0 : Int32))], [], Hse)) (C := []) rfl trivial ?_
      exact mw_of (fun _ => mu_ret rfl trivial ⟨Hse, rfl, ue, hte, (by rw [de]; exact upF_to (by omega) rfl)⟩)
  · obtain rfl : op = (19 : Int32) := Int32.toInt_inj.mp (z.trans (by decide))
    refine mw_go mu_g227 (k := 2) (f1 := (279, [(0, .inr (.inr (some 100))), (1, .inl (19 : Int32)), (2, .inl (nI o))], [.inl (19 : Int32), .inl (19 : Int32)], H)) (C := []) rfl trivial ?_
    refine mw_if (P := (19 : Int32) = (19 : Int32)) (a := 282) (b := 286) (fun _ => rfl) trivial (fun h7 => ?_) (fun h7 => absurd (by decide) h7)
    refine mw_go mu_g227 (k := 5) (f1 := (292, [(5, .inl (0 : Int32)), (4, .inl (1 : Int32)), (0, .inr (.inr (some 100))), (1, .inl (19 : Int32)), (2, .inl (nI o))], [], H)) (C := []) rfl trivial ?_
    show mu_W _ _ (292, [(5, .inl (nI 0)), (4, .inl (1 : Int32)), (0, .inr (.inr (some 100))), (1, .inl (19 : Int32)), (2, .inl (nI o))], [], H) _
    refine mw_sub (L' := [(5, .inl (nI 0)), (0, .inr (.inr (some 100))), (1, .inl (19 : Int32)), (2, .inl (nI o)), (4, .inl (1 : Int32))]) (by simp) ?_
    refine mw_down (α := Nat × mu_H) (fun zs => (292, [(5, .inl (nI zs.1)), (0, .inr (.inr (some 100))), (1, .inl (19 : Int32)), (2, .inl (nI o)), (4, .inl (1 : Int32))], [], zs.2)) (fun zs => l - zs.1) (fun zs => um m zs.2 ∧ ur m C H zs.2 ∧ (ud m zs.2 = (upF U 100 8 o (fun i => (((((U.2.2.1 100 10).2 i) - ((U.2.2.1 100 9).2 i)).toUInt32 >>> ((31 : Int32).toUInt32 &&& Int32.toUInt32 31)).toInt32 ^^^ (1 : Int32))) zs.1)) ∧ (zs.1 ≤ l)) (fun zs hzf ihf => ?_) (0, H) ⟨h, (ur.refl m C H), (show ud m H = (upF U 100 8 o (fun i => (((((U.2.2.1 100 10).2 i) - ((U.2.2.1 100 9).2 i)).toUInt32 >>> ((31 : Int32).toUInt32 &&& Int32.toUInt32 31)).toInt32 ^^^ (1 : Int32))) 0) from (by rw [e]; exact upF_zero.symm)), (show 0 ≤ l from (by omega))⟩
    obtain ⟨k, Hsf⟩ := zs
    obtain ⟨uf, htf, df, hk⟩ := hzf
    have uf : um m Hsf := uf
    have htf : ur m C H Hsf := htf
    have df : ud m Hsf = (upF U 100 8 o (fun i => (((((U.2.2.1 100 10).2 i) - ((U.2.2.1 100 9).2 i)).toUInt32 >>> ((31 : Int32).toUInt32 &&& Int32.toUInt32 31)).toInt32 ^^^ (1 : Int32))) k) := df
    have hk : k ≤ l := hk
    show mu_W _ _ (292, [(5, .inl (nI k)), (0, .inr (.inr (some 100))), (1, .inl (19 : Int32)), (2, .inl (nI o)), (4, .inl (1 : Int32))], [], Hsf) _
    refine mw_go mu_g227 (k := 3) (f1 := (298, [(5, .inl (nI k)), (0, .inr (.inr (some 100))), (1, .inl (19 : Int32)), (2, .inl (nI o)), (4, .inl (1 : Int32))], [.inl (mu_i Hsf 100 18), .inl (nI k)], Hsf)) (C := [mu_is Hsf (some 100) 5]) rfl (show mu_is Hsf (some 100) 5 from (uf.1.1.is rfl)) ?_
    rw [(show mu_i Hsf 100 18 = (nI l) from (ud_i (m := m) (P := 100) (j := 18) df rfl).trans hl)]
    refine mw_if (P := (nI k) < (nI l)) (a := 301) (b := 337) (fun _ => rfl) trivial (fun h8 => ?_) (fun h8 => ?_)
    · -- 301: (nI k) < (nI l)
      have nh8 : k < l := (nI_ltI (by omega) (by omega)).mp (show nI k < nI l from h8)
      refine mw_go mu_g227 (k := 2) (f1 := (305, [(5, .inl (nI k)), (0, .inr (.inr (some 100))), (1, .inl (19 : Int32)), (2, .inl (nI o)), (4, .inl (1 : Int32))], [.inr (.inr (mu_r Hsf 100 8))], Hsf)) (C := [mu_is Hsf (some 100) 5]) rfl (show mu_is Hsf (some 100) 5 from (uf.1.1.is rfl)) ?_
      rw [(show mu_r Hsf 100 8 = (U.2.2.2.1 100 8) from (ud_q (m := m) (P := 100) (j := 8) df rfl))]
      refine mw_go mu_g227 (k := 3) (f1 := (309, [(5, .inl (nI k)), (0, .inr (.inr (some 100))), (1, .inl (19 : Int32)), (2, .inl (nI o)), (4, .inl (1 : Int32))], [.inl ((nI o) + (nI k)), .inr (.inr (U.2.2.2.1 100 8))], Hsf)) (C := []) rfl trivial ?_
      rw [(show ((nI o) + (nI k)) = (nI (o + k)) from (nI_add o k))]
      refine mw_go mu_g227 (k := 2) (f1 := (313, [(5, .inl (nI k)), (0, .inr (.inr (some 100))), (1, .inl (19 : Int32)), (2, .inl (nI o)), (4, .inl (1 : Int32))], [.inr (.inr (mu_r Hsf 100 10)), .inl (nI (o + k)), .inr (.inr (U.2.2.2.1 100 8))], Hsf)) (C := [mu_is Hsf (some 100) 5]) rfl (show mu_is Hsf (some 100) 5 from (uf.1.1.is rfl)) ?_
      rw [(uf.1.1.r (p := 100) (j := 10) (q := 108) rfl)]
      refine mw_go mu_g227 (k := 2) (f1 := (316, [(5, .inl (nI k)), (0, .inr (.inr (some 100))), (1, .inl (19 : Int32)), (2, .inl (nI o)), (4, .inl (1 : Int32))], [.inl (mu_i Hsf 108 (nI k).toNatClampNeg), .inl (nI (o + k)), .inr (.inr (U.2.2.2.1 100 8))], Hsf)) (C := [mu_isr Hsf (some 108) 100, vp_in (nI k) (mu_n Hsf 108)]) rfl (show (mu_isr Hsf (some 108) 100) ∧ (vp_in (nI k) (mu_n Hsf 108)) from ⟨((uf.iA df rfl rfl ((ud_q (m := m) (P := 100) (j := 10) df rfl).symm.trans (uf.1.1.r (p := 100) (j := 10) (q := 108) rfl)))).r, (by rw [show mu_n Hsf 108 = 1024 from (uf.1.1.a (p := 108) (x := (100, 1024)) rfl).2]; exact vp_in_nI (by omega) (by decide))⟩) ?_
      rw [(show (mu_i Hsf 108 (nI k).toNatClampNeg) = ((U.2.2.1 100 10).2 k) from ((congrArg (mu_i Hsf 108) (nI_clamp (by omega))).trans (uf.gA df rfl rfl ((ud_q (m := m) (P := 100) (j := 10) df rfl).symm.trans (uf.1.1.r (p := 100) (j := 10) (q := 108) rfl)))).trans ((congrArg (fun z => z.2 k) (show (upF U 100 8 o (fun i => (((((U.2.2.1 100 10).2 i) - ((U.2.2.1 100 9).2 i)).toUInt32 >>> ((31 : Int32).toUInt32 &&& Int32.toUInt32 31)).toInt32 ^^^ (1 : Int32))) k).2.2.1 100 10 = (U.2.2.1 100 10) from rfl)).trans rfl))]
      refine mw_go mu_g227 (k := 2) (f1 := (320, [(5, .inl (nI k)), (0, .inr (.inr (some 100))), (1, .inl (19 : Int32)), (2, .inl (nI o)), (4, .inl (1 : Int32))], [.inr (.inr (mu_r Hsf 100 9)), .inl ((U.2.2.1 100 10).2 k), .inl (nI (o + k)), .inr (.inr (U.2.2.2.1 100 8))], Hsf)) (C := [mu_is Hsf (some 100) 5]) rfl (show mu_is Hsf (some 100) 5 from (uf.1.1.is rfl)) ?_
      rw [(uf.1.1.r (p := 100) (j := 9) (q := 107) rfl)]
      refine mw_go mu_g227 (k := 2) (f1 := (323, [(5, .inl (nI k)), (0, .inr (.inr (some 100))), (1, .inl (19 : Int32)), (2, .inl (nI o)), (4, .inl (1 : Int32))], [.inl (mu_i Hsf 107 (nI k).toNatClampNeg), .inl ((U.2.2.1 100 10).2 k), .inl (nI (o + k)), .inr (.inr (U.2.2.2.1 100 8))], Hsf)) (C := [mu_isr Hsf (some 107) 100, vp_in (nI k) (mu_n Hsf 107)]) rfl (show (mu_isr Hsf (some 107) 100) ∧ (vp_in (nI k) (mu_n Hsf 107)) from ⟨((uf.iA df rfl rfl ((ud_q (m := m) (P := 100) (j := 9) df rfl).symm.trans (uf.1.1.r (p := 100) (j := 9) (q := 107) rfl)))).r, (by rw [show mu_n Hsf 107 = 1024 from (uf.1.1.a (p := 107) (x := (100, 1024)) rfl).2]; exact vp_in_nI (by omega) (by decide))⟩) ?_
      rw [(show (mu_i Hsf 107 (nI k).toNatClampNeg) = ((U.2.2.1 100 9).2 k) from ((congrArg (mu_i Hsf 107) (nI_clamp (by omega))).trans (uf.gA df rfl rfl ((ud_q (m := m) (P := 100) (j := 9) df rfl).symm.trans (uf.1.1.r (p := 100) (j := 9) (q := 107) rfl)))).trans ((congrArg (fun z => z.2 k) (show (upF U 100 8 o (fun i => (((((U.2.2.1 100 10).2 i) - ((U.2.2.1 100 9).2 i)).toUInt32 >>> ((31 : Int32).toUInt32 &&& Int32.toUInt32 31)).toInt32 ^^^ (1 : Int32))) k).2.2.1 100 9 = (U.2.2.1 100 9) from rfl)).trans rfl))]
      refine mw_go mu_g227 (k := 6) (f1 := (331, [(5, .inl (nI k)), (0, .inr (.inr (some 100))), (1, .inl (19 : Int32)), (2, .inl (nI o)), (4, .inl (1 : Int32))], [], (mu_si Hsf (mu_p (U.2.2.2.1 100 8)) (nI (o + k)).toNatClampNeg ((((((U.2.2.1 100 10).2 k) - ((U.2.2.1 100 9).2 k)).toUInt32 >>> ((31 : Int32).toUInt32 &&& Int32.toUInt32 31)).toInt32) ^^^ (1 : Int32))))) (C := [mu_is Hsf (U.2.2.2.1 100 8) 100, vp_in (nI (o + k)) (mu_n Hsf (mu_p (U.2.2.2.1 100 8)))]) rfl (show (mu_is Hsf (U.2.2.2.1 100 8) 100) ∧ (vp_in (nI (o + k)) (mu_n Hsf (mu_p (U.2.2.2.1 100 8)))) from ⟨(uf.iA df rfl rfl (show (upF U 100 8 o (fun i => (((((U.2.2.1 100 10).2 i) - ((U.2.2.1 100 9).2 i)).toUInt32 >>> ((31 : Int32).toUInt32 &&& Int32.toUInt32 31)).toInt32 ^^^ (1 : Int32))) k).2.2.2.1 100 8 = (U.2.2.2.1 100 8) from rfl)), (uf.vA df rfl rfl (show (upF U 100 8 o (fun i => (((((U.2.2.1 100 10).2 i) - ((U.2.2.1 100 9).2 i)).toUInt32 >>> ((31 : Int32).toUInt32 &&& Int32.toUInt32 31)).toInt32 ^^^ (1 : Int32))) k).2.2.2.1 100 8 = (U.2.2.2.1 100 8) from rfl) (show ((upF U 100 8 o (fun i => (((((U.2.2.1 100 10).2 i) - ((U.2.2.1 100 9).2 i)).toUInt32 >>> ((31 : Int32).toUInt32 &&& Int32.toUInt32 31)).toInt32 ^^^ (1 : Int32))) k).2.2.1 100 8).1 = (U.2.2.1 100 8).1 from rfl) (by omega) (by omega))⟩) ?_
      rw [show (nI (o + k)).toNatClampNeg = o + k from nI_clamp (by omega)]
      obtain ⟨u9, r9, d9⟩ : um m (mu_si Hsf (mu_p (U.2.2.2.1 100 8)) (o + k) ((((((U.2.2.1 100 10).2 k) - ((U.2.2.1 100 9).2 k)).toUInt32 >>> ((31 : Int32).toUInt32 &&& Int32.toUInt32 31)).toInt32) ^^^ (1 : Int32))) ∧ ur m C Hsf (mu_si Hsf (mu_p (U.2.2.2.1 100 8)) (o + k) ((((((U.2.2.1 100 10).2 k) - ((U.2.2.1 100 9).2 k)).toUInt32 >>> ((31 : Int32).toUInt32 &&& Int32.toUInt32 31)).toInt32) ^^^ (1 : Int32))) ∧ ud m (mu_si Hsf (mu_p (U.2.2.2.1 100 8)) (o + k) ((((((U.2.2.1 100 10).2 k) - ((U.2.2.1 100 9).2 k)).toUInt32 >>> ((31 : Int32).toUInt32 &&& Int32.toUInt32 31)).toInt32) ^^^ (1 : Int32))) = (upA (upF U 100 8 o (fun i => (((((U.2.2.1 100 10).2 i) - ((U.2.2.1 100 9).2 i)).toUInt32 >>> ((31 : Int32).toUInt32 &&& Int32.toUInt32 31)).toInt32 ^^^ (1 : Int32))) k) 100 8 (o + k) ((((((U.2.2.1 100 10).2 k) - ((U.2.2.1 100 9).2 k)).toUInt32 >>> ((31 : Int32).toUInt32 &&& Int32.toUInt32 31)).toInt32) ^^^ (1 : Int32))) := uf.sA (C := C) df rfl rfl (show (upF U 100 8 o (fun i => (((((U.2.2.1 100 10).2 i) - ((U.2.2.1 100 9).2 i)).toUInt32 >>> ((31 : Int32).toUInt32 &&& Int32.toUInt32 31)).toInt32 ^^^ (1 : Int32))) k).2.2.2.1 100 8 = (U.2.2.2.1 100 8) from rfl)
      generalize (mu_si Hsf (mu_p (U.2.2.2.1 100 8)) (o + k) ((((((U.2.2.1 100 10).2 k) - ((U.2.2.1 100 9).2 k)).toUInt32 >>> ((31 : Int32).toUInt32 &&& Int32.toUInt32 31)).toInt32) ^^^ (1 : Int32))) = Q9 at u9 r9 d9 ⊢
      have ht9 : ur m C H Q9 := htf.trans r9
      refine mw_go mu_g227 (k := 1) (f1 := (334, [(5, .inl ((nI k) + 1)), (0, .inr (.inr (some 100))), (1, .inl (19 : Int32)), (2, .inl (nI o)), (4, .inl (1 : Int32))], [], Q9)) (C := []) rfl trivial ?_
      rw [(show ((nI k) + 1) = (nI (k + 1)) from (nI_add k 1))]
      refine mw_go mu_g227 (k := 1) (f1 := (292, [(5, .inl (nI (k + 1))), (0, .inr (.inr (some 100))), (1, .inl (19 : Int32)), (2, .inl (nI o)), (4, .inl (1 : Int32))], [], Q9)) (C := []) rfl trivial ?_
      exact mw_sub (by simp) (ihf (k + 1, Q9) ⟨u9, ht9, (show ud m Q9 = (upF U 100 8 o (fun i => (((((U.2.2.1 100 10).2 i) - ((U.2.2.1 100 9).2 i)).toUInt32 >>> ((31 : Int32).toUInt32 &&& Int32.toUInt32 31)).toInt32 ^^^ (1 : Int32))) (k + 1)) from (by rw [d9]; exact upF_next)), (show (k + 1) ≤ l from (by omega))⟩ (by show l - (k + 1) < l - k; omega))
    · -- 337: not (nI k) < (nI l)
      have nh8 : ¬ k < l := fun z => h8 (show nI k < nI l from (nI_ltI (by omega) (by omega)).mpr z)
      exact mw_of (fun _ => mu_ret rfl trivial ⟨Hsf, rfl, uf, htf, (by rw [df]; exact upF_to (by omega) rfl)⟩)
  · obtain rfl : op = (20 : Int32) := Int32.toInt_inj.mp (z.trans (by decide))
    refine mw_go mu_g227 (k := 2) (f1 := (279, [(0, .inr (.inr (some 100))), (1, .inl (20 : Int32)), (2, .inl (nI o))], [.inl (19 : Int32), .inl (20 : Int32)], H)) (C := []) rfl trivial ?_
    refine mw_if (P := (20 : Int32) = (19 : Int32)) (a := 282) (b := 286) (fun _ => rfl) trivial (fun h10 => absurd h10 (by decide)) (fun h10 => ?_)
    refine mw_go mu_g227 (k := 4) (f1 := (292, [(5, .inl (0 : Int32)), (4, .inl (0 : Int32)), (0, .inr (.inr (some 100))), (1, .inl (20 : Int32)), (2, .inl (nI o))], [], H)) (C := []) rfl trivial ?_
    show mu_W _ _ (292, [(5, .inl (nI 0)), (4, .inl (0 : Int32)), (0, .inr (.inr (some 100))), (1, .inl (20 : Int32)), (2, .inl (nI o))], [], H) _
    refine mw_sub (L' := [(5, .inl (nI 0)), (0, .inr (.inr (some 100))), (1, .inl (20 : Int32)), (2, .inl (nI o)), (4, .inl (0 : Int32))]) (by simp) ?_
    refine mw_down (α := Nat × mu_H) (fun zs => (292, [(5, .inl (nI zs.1)), (0, .inr (.inr (some 100))), (1, .inl (20 : Int32)), (2, .inl (nI o)), (4, .inl (0 : Int32))], [], zs.2)) (fun zs => l - zs.1) (fun zs => um m zs.2 ∧ ur m C H zs.2 ∧ (ud m zs.2 = (upF U 100 8 o (fun i => (((((U.2.2.1 100 10).2 i) - ((U.2.2.1 100 9).2 i)).toUInt32 >>> ((31 : Int32).toUInt32 &&& Int32.toUInt32 31)).toInt32 ^^^ (0 : Int32))) zs.1)) ∧ (zs.1 ≤ l)) (fun zs hzf ihf => ?_) (0, H) ⟨h, (ur.refl m C H), (show ud m H = (upF U 100 8 o (fun i => (((((U.2.2.1 100 10).2 i) - ((U.2.2.1 100 9).2 i)).toUInt32 >>> ((31 : Int32).toUInt32 &&& Int32.toUInt32 31)).toInt32 ^^^ (0 : Int32))) 0) from (by rw [e]; exact upF_zero.symm)), (show 0 ≤ l from (by omega))⟩
    obtain ⟨k, Hsf⟩ := zs
    obtain ⟨uf, htf, df, hk⟩ := hzf
    have uf : um m Hsf := uf
    have htf : ur m C H Hsf := htf
    have df : ud m Hsf = (upF U 100 8 o (fun i => (((((U.2.2.1 100 10).2 i) - ((U.2.2.1 100 9).2 i)).toUInt32 >>> ((31 : Int32).toUInt32 &&& Int32.toUInt32 31)).toInt32 ^^^ (0 : Int32))) k) := df
    have hk : k ≤ l := hk
    show mu_W _ _ (292, [(5, .inl (nI k)), (0, .inr (.inr (some 100))), (1, .inl (20 : Int32)), (2, .inl (nI o)), (4, .inl (0 : Int32))], [], Hsf) _
    refine mw_go mu_g227 (k := 3) (f1 := (298, [(5, .inl (nI k)), (0, .inr (.inr (some 100))), (1, .inl (20 : Int32)), (2, .inl (nI o)), (4, .inl (0 : Int32))], [.inl (mu_i Hsf 100 18), .inl (nI k)], Hsf)) (C := [mu_is Hsf (some 100) 5]) rfl (show mu_is Hsf (some 100) 5 from (uf.1.1.is rfl)) ?_
    rw [(show mu_i Hsf 100 18 = (nI l) from (ud_i (m := m) (P := 100) (j := 18) df rfl).trans hl)]
    refine mw_if (P := (nI k) < (nI l)) (a := 301) (b := 337) (fun _ => rfl) trivial (fun h11 => ?_) (fun h11 => ?_)
    · -- 301: (nI k) < (nI l)
      have nh11 : k < l := (nI_ltI (by omega) (by omega)).mp (show nI k < nI l from h11)
      refine mw_go mu_g227 (k := 2) (f1 := (305, [(5, .inl (nI k)), (0, .inr (.inr (some 100))), (1, .inl (20 : Int32)), (2, .inl (nI o)), (4, .inl (0 : Int32))], [.inr (.inr (mu_r Hsf 100 8))], Hsf)) (C := [mu_is Hsf (some 100) 5]) rfl (show mu_is Hsf (some 100) 5 from (uf.1.1.is rfl)) ?_
      rw [(show mu_r Hsf 100 8 = (U.2.2.2.1 100 8) from (ud_q (m := m) (P := 100) (j := 8) df rfl))]
      refine mw_go mu_g227 (k := 3) (f1 := (309, [(5, .inl (nI k)), (0, .inr (.inr (some 100))), (1, .inl (20 : Int32)), (2, .inl (nI o)), (4, .inl (0 : Int32))], [.inl ((nI o) + (nI k)), .inr (.inr (U.2.2.2.1 100 8))], Hsf)) (C := []) rfl trivial ?_
      rw [(show ((nI o) + (nI k)) = (nI (o + k)) from (nI_add o k))]
      refine mw_go mu_g227 (k := 2) (f1 := (313, [(5, .inl (nI k)), (0, .inr (.inr (some 100))), (1, .inl (20 : Int32)), (2, .inl (nI o)), (4, .inl (0 : Int32))], [.inr (.inr (mu_r Hsf 100 10)), .inl (nI (o + k)), .inr (.inr (U.2.2.2.1 100 8))], Hsf)) (C := [mu_is Hsf (some 100) 5]) rfl (show mu_is Hsf (some 100) 5 from (uf.1.1.is rfl)) ?_
      rw [(uf.1.1.r (p := 100) (j := 10) (q := 108) rfl)]
      refine mw_go mu_g227 (k := 2) (f1 := (316, [(5, .inl (nI k)), (0, .inr (.inr (some 100))), (1, .inl (20 : Int32)), (2, .inl (nI o)), (4, .inl (0 : Int32))], [.inl (mu_i Hsf 108 (nI k).toNatClampNeg), .inl (nI (o + k)), .inr (.inr (U.2.2.2.1 100 8))], Hsf)) (C := [mu_isr Hsf (some 108) 100, vp_in (nI k) (mu_n Hsf 108)]) rfl (show (mu_isr Hsf (some 108) 100) ∧ (vp_in (nI k) (mu_n Hsf 108)) from ⟨((uf.iA df rfl rfl ((ud_q (m := m) (P := 100) (j := 10) df rfl).symm.trans (uf.1.1.r (p := 100) (j := 10) (q := 108) rfl)))).r, (by rw [show mu_n Hsf 108 = 1024 from (uf.1.1.a (p := 108) (x := (100, 1024)) rfl).2]; exact vp_in_nI (by omega) (by decide))⟩) ?_
      rw [(show (mu_i Hsf 108 (nI k).toNatClampNeg) = ((U.2.2.1 100 10).2 k) from ((congrArg (mu_i Hsf 108) (nI_clamp (by omega))).trans (uf.gA df rfl rfl ((ud_q (m := m) (P := 100) (j := 10) df rfl).symm.trans (uf.1.1.r (p := 100) (j := 10) (q := 108) rfl)))).trans ((congrArg (fun z => z.2 k) (show (upF U 100 8 o (fun i => (((((U.2.2.1 100 10).2 i) - ((U.2.2.1 100 9).2 i)).toUInt32 >>> ((31 : Int32).toUInt32 &&& Int32.toUInt32 31)).toInt32 ^^^ (0 : Int32))) k).2.2.1 100 10 = (U.2.2.1 100 10) from rfl)).trans rfl))]
      refine mw_go mu_g227 (k := 2) (f1 := (320, [(5, .inl (nI k)), (0, .inr (.inr (some 100))), (1, .inl (20 : Int32)), (2, .inl (nI o)), (4, .inl (0 : Int32))], [.inr (.inr (mu_r Hsf 100 9)), .inl ((U.2.2.1 100 10).2 k), .inl (nI (o + k)), .inr (.inr (U.2.2.2.1 100 8))], Hsf)) (C := [mu_is Hsf (some 100) 5]) rfl (show mu_is Hsf (some 100) 5 from (uf.1.1.is rfl)) ?_
      rw [(uf.1.1.r (p := 100) (j := 9) (q := 107) rfl)]
      refine mw_go mu_g227 (k := 2) (f1 := (323, [(5, .inl (nI k)), (0, .inr (.inr (some 100))), (1, .inl (20 : Int32)), (2, .inl (nI o)), (4, .inl (0 : Int32))], [.inl (mu_i Hsf 107 (nI k).toNatClampNeg), .inl ((U.2.2.1 100 10).2 k), .inl (nI (o + k)), .inr (.inr (U.2.2.2.1 100 8))], Hsf)) (C := [mu_isr Hsf (some 107) 100, vp_in (nI k) (mu_n Hsf 107)]) rfl (show (mu_isr Hsf (some 107) 100) ∧ (vp_in (nI k) (mu_n Hsf 107)) from ⟨((uf.iA df rfl rfl ((ud_q (m := m) (P := 100) (j := 9) df rfl).symm.trans (uf.1.1.r (p := 100) (j := 9) (q := 107) rfl)))).r, (by rw [show mu_n Hsf 107 = 1024 from (uf.1.1.a (p := 107) (x := (100, 1024)) rfl).2]; exact vp_in_nI (by omega) (by decide))⟩) ?_
      rw [(show (mu_i Hsf 107 (nI k).toNatClampNeg) = ((U.2.2.1 100 9).2 k) from ((congrArg (mu_i Hsf 107) (nI_clamp (by omega))).trans (uf.gA df rfl rfl ((ud_q (m := m) (P := 100) (j := 9) df rfl).symm.trans (uf.1.1.r (p := 100) (j := 9) (q := 107) rfl)))).trans ((congrArg (fun z => z.2 k) (show (upF U 100 8 o (fun i => (((((U.2.2.1 100 10).2 i) - ((U.2.2.1 100 9).2 i)).toUInt32 >>> ((31 : Int32).toUInt32 &&& Int32.toUInt32 31)).toInt32 ^^^ (0 : Int32))) k).2.2.1 100 9 = (U.2.2.1 100 9) from rfl)).trans rfl))]
      refine mw_go mu_g227 (k := 6) (f1 := (331, [(5, .inl (nI k)), (0, .inr (.inr (some 100))), (1, .inl (20 : Int32)), (2, .inl (nI o)), (4, .inl (0 : Int32))], [], (mu_si Hsf (mu_p (U.2.2.2.1 100 8)) (nI (o + k)).toNatClampNeg ((((((U.2.2.1 100 10).2 k) - ((U.2.2.1 100 9).2 k)).toUInt32 >>> ((31 : Int32).toUInt32 &&& Int32.toUInt32 31)).toInt32) ^^^ (0 : Int32))))) (C := [mu_is Hsf (U.2.2.2.1 100 8) 100, vp_in (nI (o + k)) (mu_n Hsf (mu_p (U.2.2.2.1 100 8)))]) rfl (show (mu_is Hsf (U.2.2.2.1 100 8) 100) ∧ (vp_in (nI (o + k)) (mu_n Hsf (mu_p (U.2.2.2.1 100 8)))) from ⟨(uf.iA df rfl rfl (show (upF U 100 8 o (fun i => (((((U.2.2.1 100 10).2 i) - ((U.2.2.1 100 9).2 i)).toUInt32 >>> ((31 : Int32).toUInt32 &&& Int32.toUInt32 31)).toInt32 ^^^ (0 : Int32))) k).2.2.2.1 100 8 = (U.2.2.2.1 100 8) from rfl)), (uf.vA df rfl rfl (show (upF U 100 8 o (fun i => (((((U.2.2.1 100 10).2 i) - ((U.2.2.1 100 9).2 i)).toUInt32 >>> ((31 : Int32).toUInt32 &&& Int32.toUInt32 31)).toInt32 ^^^ (0 : Int32))) k).2.2.2.1 100 8 = (U.2.2.2.1 100 8) from rfl) (show ((upF U 100 8 o (fun i => (((((U.2.2.1 100 10).2 i) - ((U.2.2.1 100 9).2 i)).toUInt32 >>> ((31 : Int32).toUInt32 &&& Int32.toUInt32 31)).toInt32 ^^^ (0 : Int32))) k).2.2.1 100 8).1 = (U.2.2.1 100 8).1 from rfl) (by omega) (by omega))⟩) ?_
      rw [show (nI (o + k)).toNatClampNeg = o + k from nI_clamp (by omega)]
      obtain ⟨u12, r12, d12⟩ : um m (mu_si Hsf (mu_p (U.2.2.2.1 100 8)) (o + k) ((((((U.2.2.1 100 10).2 k) - ((U.2.2.1 100 9).2 k)).toUInt32 >>> ((31 : Int32).toUInt32 &&& Int32.toUInt32 31)).toInt32) ^^^ (0 : Int32))) ∧ ur m C Hsf (mu_si Hsf (mu_p (U.2.2.2.1 100 8)) (o + k) ((((((U.2.2.1 100 10).2 k) - ((U.2.2.1 100 9).2 k)).toUInt32 >>> ((31 : Int32).toUInt32 &&& Int32.toUInt32 31)).toInt32) ^^^ (0 : Int32))) ∧ ud m (mu_si Hsf (mu_p (U.2.2.2.1 100 8)) (o + k) ((((((U.2.2.1 100 10).2 k) - ((U.2.2.1 100 9).2 k)).toUInt32 >>> ((31 : Int32).toUInt32 &&& Int32.toUInt32 31)).toInt32) ^^^ (0 : Int32))) = (upA (upF U 100 8 o (fun i => (((((U.2.2.1 100 10).2 i) - ((U.2.2.1 100 9).2 i)).toUInt32 >>> ((31 : Int32).toUInt32 &&& Int32.toUInt32 31)).toInt32 ^^^ (0 : Int32))) k) 100 8 (o + k) ((((((U.2.2.1 100 10).2 k) - ((U.2.2.1 100 9).2 k)).toUInt32 >>> ((31 : Int32).toUInt32 &&& Int32.toUInt32 31)).toInt32) ^^^ (0 : Int32))) := uf.sA (C := C) df rfl rfl (show (upF U 100 8 o (fun i => (((((U.2.2.1 100 10).2 i) - ((U.2.2.1 100 9).2 i)).toUInt32 >>> ((31 : Int32).toUInt32 &&& Int32.toUInt32 31)).toInt32 ^^^ (0 : Int32))) k).2.2.2.1 100 8 = (U.2.2.2.1 100 8) from rfl)
      generalize (mu_si Hsf (mu_p (U.2.2.2.1 100 8)) (o + k) ((((((U.2.2.1 100 10).2 k) - ((U.2.2.1 100 9).2 k)).toUInt32 >>> ((31 : Int32).toUInt32 &&& Int32.toUInt32 31)).toInt32) ^^^ (0 : Int32))) = Q12 at u12 r12 d12 ⊢
      have ht12 : ur m C H Q12 := htf.trans r12
      refine mw_go mu_g227 (k := 1) (f1 := (334, [(5, .inl ((nI k) + 1)), (0, .inr (.inr (some 100))), (1, .inl (20 : Int32)), (2, .inl (nI o)), (4, .inl (0 : Int32))], [], Q12)) (C := []) rfl trivial ?_
      rw [(show ((nI k) + 1) = (nI (k + 1)) from (nI_add k 1))]
      refine mw_go mu_g227 (k := 1) (f1 := (292, [(5, .inl (nI (k + 1))), (0, .inr (.inr (some 100))), (1, .inl (20 : Int32)), (2, .inl (nI o)), (4, .inl (0 : Int32))], [], Q12)) (C := []) rfl trivial ?_
      exact mw_sub (by simp) (ihf (k + 1, Q12) ⟨u12, ht12, (show ud m Q12 = (upF U 100 8 o (fun i => (((((U.2.2.1 100 10).2 i) - ((U.2.2.1 100 9).2 i)).toUInt32 >>> ((31 : Int32).toUInt32 &&& Int32.toUInt32 31)).toInt32 ^^^ (0 : Int32))) (k + 1)) from (by rw [d12]; exact upF_next)), (show (k + 1) ≤ l from (by omega))⟩ (by show l - (k + 1) < l - k; omega))
    · -- 337: not (nI k) < (nI l)
      have nh11 : ¬ k < l := fun z => h11 (show nI k < nI l from (nI_ltI (by omega) (by omega)).mpr z)
      exact mw_of (fun _ => mu_ret rfl trivial ⟨Hsf, rfl, uf, htf, (by rw [df]; exact upF_to (by omega) rfl)⟩)
  · obtain rfl : op = (21 : Int32) := Int32.toInt_inj.mp (z.trans (by decide))
    refine mw_go mu_g227 (k := 2) (f1 := (217, [(0, .inr (.inr (some 100))), (1, .inl (21 : Int32)), (2, .inl (nI o))], [.inl (21 : Int32), .inl (21 : Int32)], H)) (C := []) rfl trivial ?_
    refine mw_if (P := (21 : Int32) = (21 : Int32)) (a := 220) (b := 224) (fun _ => rfl) trivial (fun h13 => ?_) (fun h13 => absurd (by decide) h13)
    refine mw_go mu_g227 (k := 5) (f1 := (229, [(4, .inl (0 : Int32)), (3, .inl (1 : Int32)), (0, .inr (.inr (some 100))), (1, .inl (21 : Int32)), (2, .inl (nI o))], [], H)) (C := []) rfl trivial ?_
    show mu_W _ _ (229, [(4, .inl (nI 0)), (3, .inl (1 : Int32)), (0, .inr (.inr (some 100))), (1, .inl (21 : Int32)), (2, .inl (nI o))], [], H) _
    refine mw_sub (L' := [(4, .inl (nI 0)), (0, .inr (.inr (some 100))), (1, .inl (21 : Int32)), (2, .inl (nI o)), (3, .inl (1 : Int32))]) (by simp) ?_
    refine mw_down (α := Nat × mu_H) (fun zs => (229, [(4, .inl (nI zs.1)), (0, .inr (.inr (some 100))), (1, .inl (21 : Int32)), (2, .inl (nI o)), (3, .inl (1 : Int32))], [], zs.2)) (fun zs => l - zs.1) (fun zs => um m zs.2 ∧ ur m C H zs.2 ∧ (ud m zs.2 = (upF U 100 8 o (fun i => (((((U.2.2.1 100 9).2 i) - ((U.2.2.1 100 10).2 i)).toUInt32 >>> ((31 : Int32).toUInt32 &&& Int32.toUInt32 31)).toInt32 ^^^ (1 : Int32))) zs.1)) ∧ (zs.1 ≤ l)) (fun zs hze ihe => ?_) (0, H) ⟨h, (ur.refl m C H), (show ud m H = (upF U 100 8 o (fun i => (((((U.2.2.1 100 9).2 i) - ((U.2.2.1 100 10).2 i)).toUInt32 >>> ((31 : Int32).toUInt32 &&& Int32.toUInt32 31)).toInt32 ^^^ (1 : Int32))) 0) from (by rw [e]; exact upF_zero.symm)), (show 0 ≤ l from (by omega))⟩
    obtain ⟨k, Hse⟩ := zs
    obtain ⟨ue, hte, de, hk⟩ := hze
    have ue : um m Hse := ue
    have hte : ur m C H Hse := hte
    have de : ud m Hse = (upF U 100 8 o (fun i => (((((U.2.2.1 100 9).2 i) - ((U.2.2.1 100 10).2 i)).toUInt32 >>> ((31 : Int32).toUInt32 &&& Int32.toUInt32 31)).toInt32 ^^^ (1 : Int32))) k) := de
    have hk : k ≤ l := hk
    show mu_W _ _ (229, [(4, .inl (nI k)), (0, .inr (.inr (some 100))), (1, .inl (21 : Int32)), (2, .inl (nI o)), (3, .inl (1 : Int32))], [], Hse) _
    refine mw_go mu_g227 (k := 3) (f1 := (235, [(4, .inl (nI k)), (0, .inr (.inr (some 100))), (1, .inl (21 : Int32)), (2, .inl (nI o)), (3, .inl (1 : Int32))], [.inl (mu_i Hse 100 18), .inl (nI k)], Hse)) (C := [mu_is Hse (some 100) 5]) rfl (show mu_is Hse (some 100) 5 from (ue.1.1.is rfl)) ?_
    rw [(show mu_i Hse 100 18 = (nI l) from (ud_i (m := m) (P := 100) (j := 18) de rfl).trans hl)]
    refine mw_if (P := (nI k) < (nI l)) (a := 238) (b := 273) (fun _ => rfl) trivial (fun h14 => ?_) (fun h14 => ?_)
    · -- 238: (nI k) < (nI l)
      have nh14 : k < l := (nI_ltI (by omega) (by omega)).mp (show nI k < nI l from h14)
      refine mw_go mu_g227 (k := 2) (f1 := (242, [(4, .inl (nI k)), (0, .inr (.inr (some 100))), (1, .inl (21 : Int32)), (2, .inl (nI o)), (3, .inl (1 : Int32))], [.inr (.inr (mu_r Hse 100 8))], Hse)) (C := [mu_is Hse (some 100) 5]) rfl (show mu_is Hse (some 100) 5 from (ue.1.1.is rfl)) ?_
      rw [(show mu_r Hse 100 8 = (U.2.2.2.1 100 8) from (ud_q (m := m) (P := 100) (j := 8) de rfl))]
      refine mw_go mu_g227 (k := 3) (f1 := (246, [(4, .inl (nI k)), (0, .inr (.inr (some 100))), (1, .inl (21 : Int32)), (2, .inl (nI o)), (3, .inl (1 : Int32))], [.inl ((nI o) + (nI k)), .inr (.inr (U.2.2.2.1 100 8))], Hse)) (C := []) rfl trivial ?_
      rw [(show ((nI o) + (nI k)) = (nI (o + k)) from (nI_add o k))]
      refine mw_go mu_g227 (k := 2) (f1 := (250, [(4, .inl (nI k)), (0, .inr (.inr (some 100))), (1, .inl (21 : Int32)), (2, .inl (nI o)), (3, .inl (1 : Int32))], [.inr (.inr (mu_r Hse 100 9)), .inl (nI (o + k)), .inr (.inr (U.2.2.2.1 100 8))], Hse)) (C := [mu_is Hse (some 100) 5]) rfl (show mu_is Hse (some 100) 5 from (ue.1.1.is rfl)) ?_
      rw [(ue.1.1.r (p := 100) (j := 9) (q := 107) rfl)]
      refine mw_go mu_g227 (k := 2) (f1 := (253, [(4, .inl (nI k)), (0, .inr (.inr (some 100))), (1, .inl (21 : Int32)), (2, .inl (nI o)), (3, .inl (1 : Int32))], [.inl (mu_i Hse 107 (nI k).toNatClampNeg), .inl (nI (o + k)), .inr (.inr (U.2.2.2.1 100 8))], Hse)) (C := [mu_isr Hse (some 107) 100, vp_in (nI k) (mu_n Hse 107)]) rfl (show (mu_isr Hse (some 107) 100) ∧ (vp_in (nI k) (mu_n Hse 107)) from ⟨((ue.iA de rfl rfl ((ud_q (m := m) (P := 100) (j := 9) de rfl).symm.trans (ue.1.1.r (p := 100) (j := 9) (q := 107) rfl)))).r, (by rw [show mu_n Hse 107 = 1024 from (ue.1.1.a (p := 107) (x := (100, 1024)) rfl).2]; exact vp_in_nI (by omega) (by decide))⟩) ?_
      rw [(show (mu_i Hse 107 (nI k).toNatClampNeg) = ((U.2.2.1 100 9).2 k) from ((congrArg (mu_i Hse 107) (nI_clamp (by omega))).trans (ue.gA de rfl rfl ((ud_q (m := m) (P := 100) (j := 9) de rfl).symm.trans (ue.1.1.r (p := 100) (j := 9) (q := 107) rfl)))).trans ((congrArg (fun z => z.2 k) (show (upF U 100 8 o (fun i => (((((U.2.2.1 100 9).2 i) - ((U.2.2.1 100 10).2 i)).toUInt32 >>> ((31 : Int32).toUInt32 &&& Int32.toUInt32 31)).toInt32 ^^^ (1 : Int32))) k).2.2.1 100 9 = (U.2.2.1 100 9) from rfl)).trans rfl))]
      refine mw_go mu_g227 (k := 2) (f1 := (257, [(4, .inl (nI k)), (0, .inr (.inr (some 100))), (1, .inl (21 : Int32)), (2, .inl (nI o)), (3, .inl (1 : Int32))], [.inr (.inr (mu_r Hse 100 10)), .inl ((U.2.2.1 100 9).2 k), .inl (nI (o + k)), .inr (.inr (U.2.2.2.1 100 8))], Hse)) (C := [mu_is Hse (some 100) 5]) rfl (show mu_is Hse (some 100) 5 from (ue.1.1.is rfl)) ?_
      rw [(ue.1.1.r (p := 100) (j := 10) (q := 108) rfl)]
      refine mw_go mu_g227 (k := 2) (f1 := (260, [(4, .inl (nI k)), (0, .inr (.inr (some 100))), (1, .inl (21 : Int32)), (2, .inl (nI o)), (3, .inl (1 : Int32))], [.inl (mu_i Hse 108 (nI k).toNatClampNeg), .inl ((U.2.2.1 100 9).2 k), .inl (nI (o + k)), .inr (.inr (U.2.2.2.1 100 8))], Hse)) (C := [mu_isr Hse (some 108) 100, vp_in (nI k) (mu_n Hse 108)]) rfl (show (mu_isr Hse (some 108) 100) ∧ (vp_in (nI k) (mu_n Hse 108)) from ⟨((ue.iA de rfl rfl ((ud_q (m := m) (P := 100) (j := 10) de rfl).symm.trans (ue.1.1.r (p := 100) (j := 10) (q := 108) rfl)))).r, (by rw [show mu_n Hse 108 = 1024 from (ue.1.1.a (p := 108) (x := (100, 1024)) rfl).2]; exact vp_in_nI (by omega) (by decide))⟩) ?_
      rw [(show (mu_i Hse 108 (nI k).toNatClampNeg) = ((U.2.2.1 100 10).2 k) from ((congrArg (mu_i Hse 108) (nI_clamp (by omega))).trans (ue.gA de rfl rfl ((ud_q (m := m) (P := 100) (j := 10) de rfl).symm.trans (ue.1.1.r (p := 100) (j := 10) (q := 108) rfl)))).trans ((congrArg (fun z => z.2 k) (show (upF U 100 8 o (fun i => (((((U.2.2.1 100 9).2 i) - ((U.2.2.1 100 10).2 i)).toUInt32 >>> ((31 : Int32).toUInt32 &&& Int32.toUInt32 31)).toInt32 ^^^ (1 : Int32))) k).2.2.1 100 10 = (U.2.2.1 100 10) from rfl)).trans rfl))]
      refine mw_go mu_g227 (k := 6) (f1 := (267, [(4, .inl (nI k)), (0, .inr (.inr (some 100))), (1, .inl (21 : Int32)), (2, .inl (nI o)), (3, .inl (1 : Int32))], [], (mu_si Hse (mu_p (U.2.2.2.1 100 8)) (nI (o + k)).toNatClampNeg ((((((U.2.2.1 100 9).2 k) - ((U.2.2.1 100 10).2 k)).toUInt32 >>> ((31 : Int32).toUInt32 &&& Int32.toUInt32 31)).toInt32) ^^^ (1 : Int32))))) (C := [mu_is Hse (U.2.2.2.1 100 8) 100, vp_in (nI (o + k)) (mu_n Hse (mu_p (U.2.2.2.1 100 8)))]) rfl (show (mu_is Hse (U.2.2.2.1 100 8) 100) ∧ (vp_in (nI (o + k)) (mu_n Hse (mu_p (U.2.2.2.1 100 8)))) from ⟨(ue.iA de rfl rfl (show (upF U 100 8 o (fun i => (((((U.2.2.1 100 9).2 i) - ((U.2.2.1 100 10).2 i)).toUInt32 >>> ((31 : Int32).toUInt32 &&& Int32.toUInt32 31)).toInt32 ^^^ (1 : Int32))) k).2.2.2.1 100 8 = (U.2.2.2.1 100 8) from rfl)), (ue.vA de rfl rfl (show (upF U 100 8 o (fun i => (((((U.2.2.1 100 9).2 i) - ((U.2.2.1 100 10).2 i)).toUInt32 >>> ((31 : Int32).toUInt32 &&& Int32.toUInt32 31)).toInt32 ^^^ (1 : Int32))) k).2.2.2.1 100 8 = (U.2.2.2.1 100 8) from rfl) (show ((upF U 100 8 o (fun i => (((((U.2.2.1 100 9).2 i) - ((U.2.2.1 100 10).2 i)).toUInt32 >>> ((31 : Int32).toUInt32 &&& Int32.toUInt32 31)).toInt32 ^^^ (1 : Int32))) k).2.2.1 100 8).1 = (U.2.2.1 100 8).1 from rfl) (by omega) (by omega))⟩) ?_
      rw [show (nI (o + k)).toNatClampNeg = o + k from nI_clamp (by omega)]
      obtain ⟨u15, r15, d15⟩ : um m (mu_si Hse (mu_p (U.2.2.2.1 100 8)) (o + k) ((((((U.2.2.1 100 9).2 k) - ((U.2.2.1 100 10).2 k)).toUInt32 >>> ((31 : Int32).toUInt32 &&& Int32.toUInt32 31)).toInt32) ^^^ (1 : Int32))) ∧ ur m C Hse (mu_si Hse (mu_p (U.2.2.2.1 100 8)) (o + k) ((((((U.2.2.1 100 9).2 k) - ((U.2.2.1 100 10).2 k)).toUInt32 >>> ((31 : Int32).toUInt32 &&& Int32.toUInt32 31)).toInt32) ^^^ (1 : Int32))) ∧ ud m (mu_si Hse (mu_p (U.2.2.2.1 100 8)) (o + k) ((((((U.2.2.1 100 9).2 k) - ((U.2.2.1 100 10).2 k)).toUInt32 >>> ((31 : Int32).toUInt32 &&& Int32.toUInt32 31)).toInt32) ^^^ (1 : Int32))) = (upA (upF U 100 8 o (fun i => (((((U.2.2.1 100 9).2 i) - ((U.2.2.1 100 10).2 i)).toUInt32 >>> ((31 : Int32).toUInt32 &&& Int32.toUInt32 31)).toInt32 ^^^ (1 : Int32))) k) 100 8 (o + k) ((((((U.2.2.1 100 9).2 k) - ((U.2.2.1 100 10).2 k)).toUInt32 >>> ((31 : Int32).toUInt32 &&& Int32.toUInt32 31)).toInt32) ^^^ (1 : Int32))) := ue.sA (C := C) de rfl rfl (show (upF U 100 8 o (fun i => (((((U.2.2.1 100 9).2 i) - ((U.2.2.1 100 10).2 i)).toUInt32 >>> ((31 : Int32).toUInt32 &&& Int32.toUInt32 31)).toInt32 ^^^ (1 : Int32))) k).2.2.2.1 100 8 = (U.2.2.2.1 100 8) from rfl)
      generalize (mu_si Hse (mu_p (U.2.2.2.1 100 8)) (o + k) ((((((U.2.2.1 100 9).2 k) - ((U.2.2.1 100 10).2 k)).toUInt32 >>> ((31 : Int32).toUInt32 &&& Int32.toUInt32 31)).toInt32) ^^^ (1 : Int32))) = Q15 at u15 r15 d15 ⊢
      have ht15 : ur m C H Q15 := hte.trans r15
      refine mw_go mu_g227 (k := 1) (f1 := (270, [(4, .inl ((nI k) + 1)), (0, .inr (.inr (some 100))), (1, .inl (21 : Int32)), (2, .inl (nI o)), (3, .inl (1 : Int32))], [], Q15)) (C := []) rfl trivial ?_
      rw [(show ((nI k) + 1) = (nI (k + 1)) from (nI_add k 1))]
      refine mw_go mu_g227 (k := 1) (f1 := (229, [(4, .inl (nI (k + 1))), (0, .inr (.inr (some 100))), (1, .inl (21 : Int32)), (2, .inl (nI o)), (3, .inl (1 : Int32))], [], Q15)) (C := []) rfl trivial ?_
      exact mw_sub (by simp) (ihe (k + 1, Q15) ⟨u15, ht15, (show ud m Q15 = (upF U 100 8 o (fun i => (((((U.2.2.1 100 9).2 i) - ((U.2.2.1 100 10).2 i)).toUInt32 >>> ((31 : Int32).toUInt32 &&& Int32.toUInt32 31)).toInt32 ^^^ (1 : Int32))) (k + 1)) from (by rw [d15]; exact upF_next)), (show (k + 1) ≤ l from (by omega))⟩ (by show l - (k + 1) < l - k; omega))
    · -- 273: not (nI k) < (nI l)
      have nh14 : ¬ k < l := fun z => h14 (show nI k < nI l from (nI_ltI (by omega) (by omega)).mpr z)
      refine mw_go mu_g227 (k := 1) (f1 := (337, [(4, .inl (nI k)), (0, .inr (.inr (some 100))), (1, .inl (21 : Int32)), (2, .inl (nI o)), (3, .inl (1 : Int32))], [], Hse)) (C := []) rfl trivial ?_
      exact mw_of (fun _ => mu_ret rfl trivial ⟨Hse, rfl, ue, hte, (by rw [de]; exact upF_to (by omega) rfl)⟩)
  · obtain rfl : op = (22 : Int32) := Int32.toInt_inj.mp (z.trans (by decide))
    refine mw_go mu_g227 (k := 2) (f1 := (58, [(3, .inl (0 : Int32)), (0, .inr (.inr (some 100))), (1, .inl (22 : Int32)), (2, .inl (nI o))], [], H)) (C := []) rfl trivial ?_
    show mu_W _ _ (58, [(3, .inl (nI 0)), (0, .inr (.inr (some 100))), (1, .inl (22 : Int32)), (2, .inl (nI o))], [], H) _
    refine mw_sub (L' := [(3, .inl (nI 0)), (0, .inr (.inr (some 100))), (1, .inl (22 : Int32)), (2, .inl (nI o))]) (by simp) ?_
    refine mw_down (α := Nat × mu_H) (fun zs => (58, [(3, .inl (nI zs.1)), (0, .inr (.inr (some 100))), (1, .inl (22 : Int32)), (2, .inl (nI o))], [], zs.2)) (fun zs => l - zs.1) (fun zs => um m zs.2 ∧ ur m C H zs.2 ∧ (ud m zs.2 = (upF U 100 8 o (fun i => ((((U.2.2.1 100 9).2 i) + ((U.2.2.1 100 10).2 i)).toInt16.toInt32)) zs.1)) ∧ (zs.1 ≤ l)) (fun zs hza iha => ?_) (0, H) ⟨h, (ur.refl m C H), (show ud m H = (upF U 100 8 o (fun i => ((((U.2.2.1 100 9).2 i) + ((U.2.2.1 100 10).2 i)).toInt16.toInt32)) 0) from (by rw [e]; exact upF_zero.symm)), (show 0 ≤ l from (by omega))⟩
    obtain ⟨k, Hsa⟩ := zs
    obtain ⟨ua, hta, da, hk⟩ := hza
    have ua : um m Hsa := ua
    have hta : ur m C H Hsa := hta
    have da : ud m Hsa = (upF U 100 8 o (fun i => ((((U.2.2.1 100 9).2 i) + ((U.2.2.1 100 10).2 i)).toInt16.toInt32)) k) := da
    have hk : k ≤ l := hk
    show mu_W _ _ (58, [(3, .inl (nI k)), (0, .inr (.inr (some 100))), (1, .inl (22 : Int32)), (2, .inl (nI o))], [], Hsa) _
    refine mw_go mu_g227 (k := 3) (f1 := (63, [(3, .inl (nI k)), (0, .inr (.inr (some 100))), (1, .inl (22 : Int32)), (2, .inl (nI o))], [.inl (mu_i Hsa 100 18), .inl (nI k)], Hsa)) (C := [mu_is Hsa (some 100) 5]) rfl (show mu_is Hsa (some 100) 5 from (ua.1.1.is rfl)) ?_
    rw [(show mu_i Hsa 100 18 = (nI l) from (ud_i (m := m) (P := 100) (j := 18) da rfl).trans hl)]
    refine mw_if (P := (nI k) < (nI l)) (a := 66) (b := 94) (fun _ => rfl) trivial (fun h16 => ?_) (fun h16 => ?_)
    · -- 66: (nI k) < (nI l)
      have nh16 : k < l := (nI_ltI (by omega) (by omega)).mp (show nI k < nI l from h16)
      refine mw_go mu_g227 (k := 2) (f1 := (70, [(3, .inl (nI k)), (0, .inr (.inr (some 100))), (1, .inl (22 : Int32)), (2, .inl (nI o))], [.inr (.inr (mu_r Hsa 100 8))], Hsa)) (C := [mu_is Hsa (some 100) 5]) rfl (show mu_is Hsa (some 100) 5 from (ua.1.1.is rfl)) ?_
      rw [(show mu_r Hsa 100 8 = (U.2.2.2.1 100 8) from (ud_q (m := m) (P := 100) (j := 8) da rfl))]
      refine mw_go mu_g227 (k := 3) (f1 := (73, [(3, .inl (nI k)), (0, .inr (.inr (some 100))), (1, .inl (22 : Int32)), (2, .inl (nI o))], [.inl ((nI o) + (nI k)), .inr (.inr (U.2.2.2.1 100 8))], Hsa)) (C := []) rfl trivial ?_
      rw [(show ((nI o) + (nI k)) = (nI (o + k)) from (nI_add o k))]
      refine mw_go mu_g227 (k := 2) (f1 := (77, [(3, .inl (nI k)), (0, .inr (.inr (some 100))), (1, .inl (22 : Int32)), (2, .inl (nI o))], [.inr (.inr (mu_r Hsa 100 9)), .inl (nI (o + k)), .inr (.inr (U.2.2.2.1 100 8))], Hsa)) (C := [mu_is Hsa (some 100) 5]) rfl (show mu_is Hsa (some 100) 5 from (ua.1.1.is rfl)) ?_
      rw [(ua.1.1.r (p := 100) (j := 9) (q := 107) rfl)]
      refine mw_go mu_g227 (k := 2) (f1 := (79, [(3, .inl (nI k)), (0, .inr (.inr (some 100))), (1, .inl (22 : Int32)), (2, .inl (nI o))], [.inl (mu_i Hsa 107 (nI k).toNatClampNeg), .inl (nI (o + k)), .inr (.inr (U.2.2.2.1 100 8))], Hsa)) (C := [mu_isr Hsa (some 107) 100, vp_in (nI k) (mu_n Hsa 107)]) rfl (show (mu_isr Hsa (some 107) 100) ∧ (vp_in (nI k) (mu_n Hsa 107)) from ⟨((ua.iA da rfl rfl ((ud_q (m := m) (P := 100) (j := 9) da rfl).symm.trans (ua.1.1.r (p := 100) (j := 9) (q := 107) rfl)))).r, (by rw [show mu_n Hsa 107 = 1024 from (ua.1.1.a (p := 107) (x := (100, 1024)) rfl).2]; exact vp_in_nI (by omega) (by decide))⟩) ?_
      rw [(show (mu_i Hsa 107 (nI k).toNatClampNeg) = ((U.2.2.1 100 9).2 k) from ((congrArg (mu_i Hsa 107) (nI_clamp (by omega))).trans (ua.gA da rfl rfl ((ud_q (m := m) (P := 100) (j := 9) da rfl).symm.trans (ua.1.1.r (p := 100) (j := 9) (q := 107) rfl)))).trans ((congrArg (fun z => z.2 k) (show (upF U 100 8 o (fun i => ((((U.2.2.1 100 9).2 i) + ((U.2.2.1 100 10).2 i)).toInt16.toInt32)) k).2.2.1 100 9 = (U.2.2.1 100 9) from rfl)).trans rfl))]
      refine mw_go mu_g227 (k := 2) (f1 := (83, [(3, .inl (nI k)), (0, .inr (.inr (some 100))), (1, .inl (22 : Int32)), (2, .inl (nI o))], [.inr (.inr (mu_r Hsa 100 10)), .inl ((U.2.2.1 100 9).2 k), .inl (nI (o + k)), .inr (.inr (U.2.2.2.1 100 8))], Hsa)) (C := [mu_is Hsa (some 100) 5]) rfl (show mu_is Hsa (some 100) 5 from (ua.1.1.is rfl)) ?_
      rw [(ua.1.1.r (p := 100) (j := 10) (q := 108) rfl)]
      refine mw_go mu_g227 (k := 2) (f1 := (85, [(3, .inl (nI k)), (0, .inr (.inr (some 100))), (1, .inl (22 : Int32)), (2, .inl (nI o))], [.inl (mu_i Hsa 108 (nI k).toNatClampNeg), .inl ((U.2.2.1 100 9).2 k), .inl (nI (o + k)), .inr (.inr (U.2.2.2.1 100 8))], Hsa)) (C := [mu_isr Hsa (some 108) 100, vp_in (nI k) (mu_n Hsa 108)]) rfl (show (mu_isr Hsa (some 108) 100) ∧ (vp_in (nI k) (mu_n Hsa 108)) from ⟨((ua.iA da rfl rfl ((ud_q (m := m) (P := 100) (j := 10) da rfl).symm.trans (ua.1.1.r (p := 100) (j := 10) (q := 108) rfl)))).r, (by rw [show mu_n Hsa 108 = 1024 from (ua.1.1.a (p := 108) (x := (100, 1024)) rfl).2]; exact vp_in_nI (by omega) (by decide))⟩) ?_
      rw [(show (mu_i Hsa 108 (nI k).toNatClampNeg) = ((U.2.2.1 100 10).2 k) from ((congrArg (mu_i Hsa 108) (nI_clamp (by omega))).trans (ua.gA da rfl rfl ((ud_q (m := m) (P := 100) (j := 10) da rfl).symm.trans (ua.1.1.r (p := 100) (j := 10) (q := 108) rfl)))).trans ((congrArg (fun z => z.2 k) (show (upF U 100 8 o (fun i => ((((U.2.2.1 100 9).2 i) + ((U.2.2.1 100 10).2 i)).toInt16.toInt32)) k).2.2.1 100 10 = (U.2.2.1 100 10) from rfl)).trans rfl))]
      refine mw_go mu_g227 (k := 3) (f1 := (88, [(3, .inl (nI k)), (0, .inr (.inr (some 100))), (1, .inl (22 : Int32)), (2, .inl (nI o))], [], (mu_si Hsa (mu_p (U.2.2.2.1 100 8)) (nI (o + k)).toNatClampNeg ((((U.2.2.1 100 9).2 k) + ((U.2.2.1 100 10).2 k)).toInt16.toInt32)))) (C := [mu_is Hsa (U.2.2.2.1 100 8) 100, vp_in (nI (o + k)) (mu_n Hsa (mu_p (U.2.2.2.1 100 8)))]) rfl (show (mu_is Hsa (U.2.2.2.1 100 8) 100) ∧ (vp_in (nI (o + k)) (mu_n Hsa (mu_p (U.2.2.2.1 100 8)))) from ⟨(ua.iA da rfl rfl (show (upF U 100 8 o (fun i => ((((U.2.2.1 100 9).2 i) + ((U.2.2.1 100 10).2 i)).toInt16.toInt32)) k).2.2.2.1 100 8 = (U.2.2.2.1 100 8) from rfl)), (ua.vA da rfl rfl (show (upF U 100 8 o (fun i => ((((U.2.2.1 100 9).2 i) + ((U.2.2.1 100 10).2 i)).toInt16.toInt32)) k).2.2.2.1 100 8 = (U.2.2.2.1 100 8) from rfl) (show ((upF U 100 8 o (fun i => ((((U.2.2.1 100 9).2 i) + ((U.2.2.1 100 10).2 i)).toInt16.toInt32)) k).2.2.1 100 8).1 = (U.2.2.1 100 8).1 from rfl) (by omega) (by omega))⟩) ?_
      rw [show (nI (o + k)).toNatClampNeg = o + k from nI_clamp (by omega)]
      obtain ⟨u17, r17, d17⟩ : um m (mu_si Hsa (mu_p (U.2.2.2.1 100 8)) (o + k) ((((U.2.2.1 100 9).2 k) + ((U.2.2.1 100 10).2 k)).toInt16.toInt32)) ∧ ur m C Hsa (mu_si Hsa (mu_p (U.2.2.2.1 100 8)) (o + k) ((((U.2.2.1 100 9).2 k) + ((U.2.2.1 100 10).2 k)).toInt16.toInt32)) ∧ ud m (mu_si Hsa (mu_p (U.2.2.2.1 100 8)) (o + k) ((((U.2.2.1 100 9).2 k) + ((U.2.2.1 100 10).2 k)).toInt16.toInt32)) = (upA (upF U 100 8 o (fun i => ((((U.2.2.1 100 9).2 i) + ((U.2.2.1 100 10).2 i)).toInt16.toInt32)) k) 100 8 (o + k) ((((U.2.2.1 100 9).2 k) + ((U.2.2.1 100 10).2 k)).toInt16.toInt32)) := ua.sA (C := C) da rfl rfl (show (upF U 100 8 o (fun i => ((((U.2.2.1 100 9).2 i) + ((U.2.2.1 100 10).2 i)).toInt16.toInt32)) k).2.2.2.1 100 8 = (U.2.2.2.1 100 8) from rfl)
      generalize (mu_si Hsa (mu_p (U.2.2.2.1 100 8)) (o + k) ((((U.2.2.1 100 9).2 k) + ((U.2.2.1 100 10).2 k)).toInt16.toInt32)) = Q17 at u17 r17 d17 ⊢
      have ht17 : ur m C H Q17 := hta.trans r17
      refine mw_go mu_g227 (k := 1) (f1 := (91, [(3, .inl ((nI k) + 1)), (0, .inr (.inr (some 100))), (1, .inl (22 : Int32)), (2, .inl (nI o))], [], Q17)) (C := []) rfl trivial ?_
      rw [(show ((nI k) + 1) = (nI (k + 1)) from (nI_add k 1))]
      refine mw_go mu_g227 (k := 1) (f1 := (58, [(3, .inl (nI (k + 1))), (0, .inr (.inr (some 100))), (1, .inl (22 : Int32)), (2, .inl (nI o))], [], Q17)) (C := []) rfl trivial ?_
      exact mw_sub (by simp) (iha (k + 1, Q17) ⟨u17, ht17, (show ud m Q17 = (upF U 100 8 o (fun i => ((((U.2.2.1 100 9).2 i) + ((U.2.2.1 100 10).2 i)).toInt16.toInt32)) (k + 1)) from (by rw [d17]; exact upF_next)), (show (k + 1) ≤ l from (by omega))⟩ (by show l - (k + 1) < l - k; omega))
    · -- 94: not (nI k) < (nI l)
      have nh16 : ¬ k < l := fun z => h16 (show nI k < nI l from (nI_ltI (by omega) (by omega)).mpr z)
      refine mw_go mu_g227 (k := 1) (f1 := (337, [(3, .inl (nI k)), (0, .inr (.inr (some 100))), (1, .inl (22 : Int32)), (2, .inl (nI o))], [], Hsa)) (C := []) rfl trivial ?_
      exact mw_of (fun _ => mu_ret rfl trivial ⟨Hsa, rfl, ua, hta, (by rw [da]; exact upF_to (by omega) rfl)⟩)
  · obtain rfl : op = (23 : Int32) := Int32.toInt_inj.mp (z.trans (by decide))
    refine mw_go mu_g227 (k := 2) (f1 := (99, [(3, .inl (0 : Int32)), (0, .inr (.inr (some 100))), (1, .inl (23 : Int32)), (2, .inl (nI o))], [], H)) (C := []) rfl trivial ?_
    show mu_W _ _ (99, [(3, .inl (nI 0)), (0, .inr (.inr (some 100))), (1, .inl (23 : Int32)), (2, .inl (nI o))], [], H) _
    refine mw_sub (L' := [(3, .inl (nI 0)), (0, .inr (.inr (some 100))), (1, .inl (23 : Int32)), (2, .inl (nI o))]) (by simp) ?_
    refine mw_down (α := Nat × mu_H) (fun zs => (99, [(3, .inl (nI zs.1)), (0, .inr (.inr (some 100))), (1, .inl (23 : Int32)), (2, .inl (nI o))], [], zs.2)) (fun zs => l - zs.1) (fun zs => um m zs.2 ∧ ur m C H zs.2 ∧ (ud m zs.2 = (upF U 100 8 o (fun i => ((((U.2.2.1 100 9).2 i) - ((U.2.2.1 100 10).2 i)).toInt16.toInt32)) zs.1)) ∧ (zs.1 ≤ l)) (fun zs hzb ihb => ?_) (0, H) ⟨h, (ur.refl m C H), (show ud m H = (upF U 100 8 o (fun i => ((((U.2.2.1 100 9).2 i) - ((U.2.2.1 100 10).2 i)).toInt16.toInt32)) 0) from (by rw [e]; exact upF_zero.symm)), (show 0 ≤ l from (by omega))⟩
    obtain ⟨k, Hsb⟩ := zs
    obtain ⟨ub, htb, db, hk⟩ := hzb
    have ub : um m Hsb := ub
    have htb : ur m C H Hsb := htb
    have db : ud m Hsb = (upF U 100 8 o (fun i => ((((U.2.2.1 100 9).2 i) - ((U.2.2.1 100 10).2 i)).toInt16.toInt32)) k) := db
    have hk : k ≤ l := hk
    show mu_W _ _ (99, [(3, .inl (nI k)), (0, .inr (.inr (some 100))), (1, .inl (23 : Int32)), (2, .inl (nI o))], [], Hsb) _
    refine mw_go mu_g227 (k := 3) (f1 := (104, [(3, .inl (nI k)), (0, .inr (.inr (some 100))), (1, .inl (23 : Int32)), (2, .inl (nI o))], [.inl (mu_i Hsb 100 18), .inl (nI k)], Hsb)) (C := [mu_is Hsb (some 100) 5]) rfl (show mu_is Hsb (some 100) 5 from (ub.1.1.is rfl)) ?_
    rw [(show mu_i Hsb 100 18 = (nI l) from (ud_i (m := m) (P := 100) (j := 18) db rfl).trans hl)]
    refine mw_if (P := (nI k) < (nI l)) (a := 107) (b := 135) (fun _ => rfl) trivial (fun h18 => ?_) (fun h18 => ?_)
    · -- 107: (nI k) < (nI l)
      have nh18 : k < l := (nI_ltI (by omega) (by omega)).mp (show nI k < nI l from h18)
      refine mw_go mu_g227 (k := 2) (f1 := (111, [(3, .inl (nI k)), (0, .inr (.inr (some 100))), (1, .inl (23 : Int32)), (2, .inl (nI o))], [.inr (.inr (mu_r Hsb 100 8))], Hsb)) (C := [mu_is Hsb (some 100) 5]) rfl (show mu_is Hsb (some 100) 5 from (ub.1.1.is rfl)) ?_
      rw [(show mu_r Hsb 100 8 = (U.2.2.2.1 100 8) from (ud_q (m := m) (P := 100) (j := 8) db rfl))]
      refine mw_go mu_g227 (k := 3) (f1 := (114, [(3, .inl (nI k)), (0, .inr (.inr (some 100))), (1, .inl (23 : Int32)), (2, .inl (nI o))], [.inl ((nI o) + (nI k)), .inr (.inr (U.2.2.2.1 100 8))], Hsb)) (C := []) rfl trivial ?_
      rw [(show ((nI o) + (nI k)) = (nI (o + k)) from (nI_add o k))]
      refine mw_go mu_g227 (k := 2) (f1 := (118, [(3, .inl (nI k)), (0, .inr (.inr (some 100))), (1, .inl (23 : Int32)), (2, .inl (nI o))], [.inr (.inr (mu_r Hsb 100 9)), .inl (nI (o + k)), .inr (.inr (U.2.2.2.1 100 8))], Hsb)) (C := [mu_is Hsb (some 100) 5]) rfl (show mu_is Hsb (some 100) 5 from (ub.1.1.is rfl)) ?_
      rw [(ub.1.1.r (p := 100) (j := 9) (q := 107) rfl)]
      refine mw_go mu_g227 (k := 2) (f1 := (120, [(3, .inl (nI k)), (0, .inr (.inr (some 100))), (1, .inl (23 : Int32)), (2, .inl (nI o))], [.inl (mu_i Hsb 107 (nI k).toNatClampNeg), .inl (nI (o + k)), .inr (.inr (U.2.2.2.1 100 8))], Hsb)) (C := [mu_isr Hsb (some 107) 100, vp_in (nI k) (mu_n Hsb 107)]) rfl (show (mu_isr Hsb (some 107) 100) ∧ (vp_in (nI k) (mu_n Hsb 107)) from ⟨((ub.iA db rfl rfl ((ud_q (m := m) (P := 100) (j := 9) db rfl).symm.trans (ub.1.1.r (p := 100) (j := 9) (q := 107) rfl)))).r, (by rw [show mu_n Hsb 107 = 1024 from (ub.1.1.a (p := 107) (x := (100, 1024)) rfl).2]; exact vp_in_nI (by omega) (by decide))⟩) ?_
      rw [(show (mu_i Hsb 107 (nI k).toNatClampNeg) = ((U.2.2.1 100 9).2 k) from ((congrArg (mu_i Hsb 107) (nI_clamp (by omega))).trans (ub.gA db rfl rfl ((ud_q (m := m) (P := 100) (j := 9) db rfl).symm.trans (ub.1.1.r (p := 100) (j := 9) (q := 107) rfl)))).trans ((congrArg (fun z => z.2 k) (show (upF U 100 8 o (fun i => ((((U.2.2.1 100 9).2 i) - ((U.2.2.1 100 10).2 i)).toInt16.toInt32)) k).2.2.1 100 9 = (U.2.2.1 100 9) from rfl)).trans rfl))]
      refine mw_go mu_g227 (k := 2) (f1 := (124, [(3, .inl (nI k)), (0, .inr (.inr (some 100))), (1, .inl (23 : Int32)), (2, .inl (nI o))], [.inr (.inr (mu_r Hsb 100 10)), .inl ((U.2.2.1 100 9).2 k), .inl (nI (o + k)), .inr (.inr (U.2.2.2.1 100 8))], Hsb)) (C := [mu_is Hsb (some 100) 5]) rfl (show mu_is Hsb (some 100) 5 from (ub.1.1.is rfl)) ?_
      rw [(ub.1.1.r (p := 100) (j := 10) (q := 108) rfl)]
      refine mw_go mu_g227 (k := 2) (f1 := (126, [(3, .inl (nI k)), (0, .inr (.inr (some 100))), (1, .inl (23 : Int32)), (2, .inl (nI o))], [.inl (mu_i Hsb 108 (nI k).toNatClampNeg), .inl ((U.2.2.1 100 9).2 k), .inl (nI (o + k)), .inr (.inr (U.2.2.2.1 100 8))], Hsb)) (C := [mu_isr Hsb (some 108) 100, vp_in (nI k) (mu_n Hsb 108)]) rfl (show (mu_isr Hsb (some 108) 100) ∧ (vp_in (nI k) (mu_n Hsb 108)) from ⟨((ub.iA db rfl rfl ((ud_q (m := m) (P := 100) (j := 10) db rfl).symm.trans (ub.1.1.r (p := 100) (j := 10) (q := 108) rfl)))).r, (by rw [show mu_n Hsb 108 = 1024 from (ub.1.1.a (p := 108) (x := (100, 1024)) rfl).2]; exact vp_in_nI (by omega) (by decide))⟩) ?_
      rw [(show (mu_i Hsb 108 (nI k).toNatClampNeg) = ((U.2.2.1 100 10).2 k) from ((congrArg (mu_i Hsb 108) (nI_clamp (by omega))).trans (ub.gA db rfl rfl ((ud_q (m := m) (P := 100) (j := 10) db rfl).symm.trans (ub.1.1.r (p := 100) (j := 10) (q := 108) rfl)))).trans ((congrArg (fun z => z.2 k) (show (upF U 100 8 o (fun i => ((((U.2.2.1 100 9).2 i) - ((U.2.2.1 100 10).2 i)).toInt16.toInt32)) k).2.2.1 100 10 = (U.2.2.1 100 10) from rfl)).trans rfl))]
      refine mw_go mu_g227 (k := 3) (f1 := (129, [(3, .inl (nI k)), (0, .inr (.inr (some 100))), (1, .inl (23 : Int32)), (2, .inl (nI o))], [], (mu_si Hsb (mu_p (U.2.2.2.1 100 8)) (nI (o + k)).toNatClampNeg ((((U.2.2.1 100 9).2 k) - ((U.2.2.1 100 10).2 k)).toInt16.toInt32)))) (C := [mu_is Hsb (U.2.2.2.1 100 8) 100, vp_in (nI (o + k)) (mu_n Hsb (mu_p (U.2.2.2.1 100 8)))]) rfl (show (mu_is Hsb (U.2.2.2.1 100 8) 100) ∧ (vp_in (nI (o + k)) (mu_n Hsb (mu_p (U.2.2.2.1 100 8)))) from ⟨(ub.iA db rfl rfl (show (upF U 100 8 o (fun i => ((((U.2.2.1 100 9).2 i) - ((U.2.2.1 100 10).2 i)).toInt16.toInt32)) k).2.2.2.1 100 8 = (U.2.2.2.1 100 8) from rfl)), (ub.vA db rfl rfl (show (upF U 100 8 o (fun i => ((((U.2.2.1 100 9).2 i) - ((U.2.2.1 100 10).2 i)).toInt16.toInt32)) k).2.2.2.1 100 8 = (U.2.2.2.1 100 8) from rfl) (show ((upF U 100 8 o (fun i => ((((U.2.2.1 100 9).2 i) - ((U.2.2.1 100 10).2 i)).toInt16.toInt32)) k).2.2.1 100 8).1 = (U.2.2.1 100 8).1 from rfl) (by omega) (by omega))⟩) ?_
      rw [show (nI (o + k)).toNatClampNeg = o + k from nI_clamp (by omega)]
      obtain ⟨u19, r19, d19⟩ : um m (mu_si Hsb (mu_p (U.2.2.2.1 100 8)) (o + k) ((((U.2.2.1 100 9).2 k) - ((U.2.2.1 100 10).2 k)).toInt16.toInt32)) ∧ ur m C Hsb (mu_si Hsb (mu_p (U.2.2.2.1 100 8)) (o + k) ((((U.2.2.1 100 9).2 k) - ((U.2.2.1 100 10).2 k)).toInt16.toInt32)) ∧ ud m (mu_si Hsb (mu_p (U.2.2.2.1 100 8)) (o + k) ((((U.2.2.1 100 9).2 k) - ((U.2.2.1 100 10).2 k)).toInt16.toInt32)) = (upA (upF U 100 8 o (fun i => ((((U.2.2.1 100 9).2 i) - ((U.2.2.1 100 10).2 i)).toInt16.toInt32)) k) 100 8 (o + k) ((((U.2.2.1 100 9).2 k) - ((U.2.2.1 100 10).2 k)).toInt16.toInt32)) := ub.sA (C := C) db rfl rfl (show (upF U 100 8 o (fun i => ((((U.2.2.1 100 9).2 i) - ((U.2.2.1 100 10).2 i)).toInt16.toInt32)) k).2.2.2.1 100 8 = (U.2.2.2.1 100 8) from rfl)
      generalize (mu_si Hsb (mu_p (U.2.2.2.1 100 8)) (o + k) ((((U.2.2.1 100 9).2 k) - ((U.2.2.1 100 10).2 k)).toInt16.toInt32)) = Q19 at u19 r19 d19 ⊢
      have ht19 : ur m C H Q19 := htb.trans r19
      refine mw_go mu_g227 (k := 1) (f1 := (132, [(3, .inl ((nI k) + 1)), (0, .inr (.inr (some 100))), (1, .inl (23 : Int32)), (2, .inl (nI o))], [], Q19)) (C := []) rfl trivial ?_
      rw [(show ((nI k) + 1) = (nI (k + 1)) from (nI_add k 1))]
      refine mw_go mu_g227 (k := 1) (f1 := (99, [(3, .inl (nI (k + 1))), (0, .inr (.inr (some 100))), (1, .inl (23 : Int32)), (2, .inl (nI o))], [], Q19)) (C := []) rfl trivial ?_
      exact mw_sub (by simp) (ihb (k + 1, Q19) ⟨u19, ht19, (show ud m Q19 = (upF U 100 8 o (fun i => ((((U.2.2.1 100 9).2 i) - ((U.2.2.1 100 10).2 i)).toInt16.toInt32)) (k + 1)) from (by rw [d19]; exact upF_next)), (show (k + 1) ≤ l from (by omega))⟩ (by show l - (k + 1) < l - k; omega))
    · -- 135: not (nI k) < (nI l)
      have nh18 : ¬ k < l := fun z => h18 (show nI k < nI l from (nI_ltI (by omega) (by omega)).mpr z)
      refine mw_go mu_g227 (k := 1) (f1 := (337, [(3, .inl (nI k)), (0, .inr (.inr (some 100))), (1, .inl (23 : Int32)), (2, .inl (nI o))], [], Hsb)) (C := []) rfl trivial ?_
      exact mw_of (fun _ => mu_ret rfl trivial ⟨Hsb, rfl, ub, htb, (by rw [db]; exact upF_to (by omega) rfl)⟩)
  · obtain rfl : op = (24 : Int32) := Int32.toInt_inj.mp (z.trans (by decide))
    refine mw_go mu_g227 (k := 2) (f1 := (140, [(3, .inl (0 : Int32)), (0, .inr (.inr (some 100))), (1, .inl (24 : Int32)), (2, .inl (nI o))], [], H)) (C := []) rfl trivial ?_
    show mu_W _ _ (140, [(3, .inl (nI 0)), (0, .inr (.inr (some 100))), (1, .inl (24 : Int32)), (2, .inl (nI o))], [], H) _
    refine mw_sub (L' := [(3, .inl (nI 0)), (0, .inr (.inr (some 100))), (1, .inl (24 : Int32)), (2, .inl (nI o))]) (by simp) ?_
    refine mw_down (α := Nat × mu_H) (fun zs => (140, [(3, .inl (nI zs.1)), (0, .inr (.inr (some 100))), (1, .inl (24 : Int32)), (2, .inl (nI o))], [], zs.2)) (fun zs => l - zs.1) (fun zs => um m zs.2 ∧ ur m C H zs.2 ∧ (ud m zs.2 = (upF U 100 8 o (fun i => ((((U.2.2.1 100 9).2 i) * ((U.2.2.1 100 10).2 i)).toInt16.toInt32)) zs.1)) ∧ (zs.1 ≤ l)) (fun zs hzc ihc => ?_) (0, H) ⟨h, (ur.refl m C H), (show ud m H = (upF U 100 8 o (fun i => ((((U.2.2.1 100 9).2 i) * ((U.2.2.1 100 10).2 i)).toInt16.toInt32)) 0) from (by rw [e]; exact upF_zero.symm)), (show 0 ≤ l from (by omega))⟩
    obtain ⟨k, Hsc⟩ := zs
    obtain ⟨uc, htc, dc, hk⟩ := hzc
    have uc : um m Hsc := uc
    have htc : ur m C H Hsc := htc
    have dc : ud m Hsc = (upF U 100 8 o (fun i => ((((U.2.2.1 100 9).2 i) * ((U.2.2.1 100 10).2 i)).toInt16.toInt32)) k) := dc
    have hk : k ≤ l := hk
    show mu_W _ _ (140, [(3, .inl (nI k)), (0, .inr (.inr (some 100))), (1, .inl (24 : Int32)), (2, .inl (nI o))], [], Hsc) _
    refine mw_go mu_g227 (k := 3) (f1 := (145, [(3, .inl (nI k)), (0, .inr (.inr (some 100))), (1, .inl (24 : Int32)), (2, .inl (nI o))], [.inl (mu_i Hsc 100 18), .inl (nI k)], Hsc)) (C := [mu_is Hsc (some 100) 5]) rfl (show mu_is Hsc (some 100) 5 from (uc.1.1.is rfl)) ?_
    rw [(show mu_i Hsc 100 18 = (nI l) from (ud_i (m := m) (P := 100) (j := 18) dc rfl).trans hl)]
    refine mw_if (P := (nI k) < (nI l)) (a := 148) (b := 176) (fun _ => rfl) trivial (fun h20 => ?_) (fun h20 => ?_)
    · -- 148: (nI k) < (nI l)
      have nh20 : k < l := (nI_ltI (by omega) (by omega)).mp (show nI k < nI l from h20)
      refine mw_go mu_g227 (k := 2) (f1 := (152, [(3, .inl (nI k)), (0, .inr (.inr (some 100))), (1, .inl (24 : Int32)), (2, .inl (nI o))], [.inr (.inr (mu_r Hsc 100 8))], Hsc)) (C := [mu_is Hsc (some 100) 5]) rfl (show mu_is Hsc (some 100) 5 from (uc.1.1.is rfl)) ?_
      rw [(show mu_r Hsc 100 8 = (U.2.2.2.1 100 8) from (ud_q (m := m) (P := 100) (j := 8) dc rfl))]
      refine mw_go mu_g227 (k := 3) (f1 := (155, [(3, .inl (nI k)), (0, .inr (.inr (some 100))), (1, .inl (24 : Int32)), (2, .inl (nI o))], [.inl ((nI o) + (nI k)), .inr (.inr (U.2.2.2.1 100 8))], Hsc)) (C := []) rfl trivial ?_
      rw [(show ((nI o) + (nI k)) = (nI (o + k)) from (nI_add o k))]
      refine mw_go mu_g227 (k := 2) (f1 := (159, [(3, .inl (nI k)), (0, .inr (.inr (some 100))), (1, .inl (24 : Int32)), (2, .inl (nI o))], [.inr (.inr (mu_r Hsc 100 9)), .inl (nI (o + k)), .inr (.inr (U.2.2.2.1 100 8))], Hsc)) (C := [mu_is Hsc (some 100) 5]) rfl (show mu_is Hsc (some 100) 5 from (uc.1.1.is rfl)) ?_
      rw [(uc.1.1.r (p := 100) (j := 9) (q := 107) rfl)]
      refine mw_go mu_g227 (k := 2) (f1 := (161, [(3, .inl (nI k)), (0, .inr (.inr (some 100))), (1, .inl (24 : Int32)), (2, .inl (nI o))], [.inl (mu_i Hsc 107 (nI k).toNatClampNeg), .inl (nI (o + k)), .inr (.inr (U.2.2.2.1 100 8))], Hsc)) (C := [mu_isr Hsc (some 107) 100, vp_in (nI k) (mu_n Hsc 107)]) rfl (show (mu_isr Hsc (some 107) 100) ∧ (vp_in (nI k) (mu_n Hsc 107)) from ⟨((uc.iA dc rfl rfl ((ud_q (m := m) (P := 100) (j := 9) dc rfl).symm.trans (uc.1.1.r (p := 100) (j := 9) (q := 107) rfl)))).r, (by rw [show mu_n Hsc 107 = 1024 from (uc.1.1.a (p := 107) (x := (100, 1024)) rfl).2]; exact vp_in_nI (by omega) (by decide))⟩) ?_
      rw [(show (mu_i Hsc 107 (nI k).toNatClampNeg) = ((U.2.2.1 100 9).2 k) from ((congrArg (mu_i Hsc 107) (nI_clamp (by omega))).trans (uc.gA dc rfl rfl ((ud_q (m := m) (P := 100) (j := 9) dc rfl).symm.trans (uc.1.1.r (p := 100) (j := 9) (q := 107) rfl)))).trans ((congrArg (fun z => z.2 k) (show (upF U 100 8 o (fun i => ((((U.2.2.1 100 9).2 i) * ((U.2.2.1 100 10).2 i)).toInt16.toInt32)) k).2.2.1 100 9 = (U.2.2.1 100 9) from rfl)).trans rfl))]
      refine mw_go mu_g227 (k := 2) (f1 := (165, [(3, .inl (nI k)), (0, .inr (.inr (some 100))), (1, .inl (24 : Int32)), (2, .inl (nI o))], [.inr (.inr (mu_r Hsc 100 10)), .inl ((U.2.2.1 100 9).2 k), .inl (nI (o + k)), .inr (.inr (U.2.2.2.1 100 8))], Hsc)) (C := [mu_is Hsc (some 100) 5]) rfl (show mu_is Hsc (some 100) 5 from (uc.1.1.is rfl)) ?_
      rw [(uc.1.1.r (p := 100) (j := 10) (q := 108) rfl)]
      refine mw_go mu_g227 (k := 2) (f1 := (167, [(3, .inl (nI k)), (0, .inr (.inr (some 100))), (1, .inl (24 : Int32)), (2, .inl (nI o))], [.inl (mu_i Hsc 108 (nI k).toNatClampNeg), .inl ((U.2.2.1 100 9).2 k), .inl (nI (o + k)), .inr (.inr (U.2.2.2.1 100 8))], Hsc)) (C := [mu_isr Hsc (some 108) 100, vp_in (nI k) (mu_n Hsc 108)]) rfl (show (mu_isr Hsc (some 108) 100) ∧ (vp_in (nI k) (mu_n Hsc 108)) from ⟨((uc.iA dc rfl rfl ((ud_q (m := m) (P := 100) (j := 10) dc rfl).symm.trans (uc.1.1.r (p := 100) (j := 10) (q := 108) rfl)))).r, (by rw [show mu_n Hsc 108 = 1024 from (uc.1.1.a (p := 108) (x := (100, 1024)) rfl).2]; exact vp_in_nI (by omega) (by decide))⟩) ?_
      rw [(show (mu_i Hsc 108 (nI k).toNatClampNeg) = ((U.2.2.1 100 10).2 k) from ((congrArg (mu_i Hsc 108) (nI_clamp (by omega))).trans (uc.gA dc rfl rfl ((ud_q (m := m) (P := 100) (j := 10) dc rfl).symm.trans (uc.1.1.r (p := 100) (j := 10) (q := 108) rfl)))).trans ((congrArg (fun z => z.2 k) (show (upF U 100 8 o (fun i => ((((U.2.2.1 100 9).2 i) * ((U.2.2.1 100 10).2 i)).toInt16.toInt32)) k).2.2.1 100 10 = (U.2.2.1 100 10) from rfl)).trans rfl))]
      refine mw_go mu_g227 (k := 3) (f1 := (170, [(3, .inl (nI k)), (0, .inr (.inr (some 100))), (1, .inl (24 : Int32)), (2, .inl (nI o))], [], (mu_si Hsc (mu_p (U.2.2.2.1 100 8)) (nI (o + k)).toNatClampNeg ((((U.2.2.1 100 9).2 k) * ((U.2.2.1 100 10).2 k)).toInt16.toInt32)))) (C := [mu_is Hsc (U.2.2.2.1 100 8) 100, vp_in (nI (o + k)) (mu_n Hsc (mu_p (U.2.2.2.1 100 8)))]) rfl (show (mu_is Hsc (U.2.2.2.1 100 8) 100) ∧ (vp_in (nI (o + k)) (mu_n Hsc (mu_p (U.2.2.2.1 100 8)))) from ⟨(uc.iA dc rfl rfl (show (upF U 100 8 o (fun i => ((((U.2.2.1 100 9).2 i) * ((U.2.2.1 100 10).2 i)).toInt16.toInt32)) k).2.2.2.1 100 8 = (U.2.2.2.1 100 8) from rfl)), (uc.vA dc rfl rfl (show (upF U 100 8 o (fun i => ((((U.2.2.1 100 9).2 i) * ((U.2.2.1 100 10).2 i)).toInt16.toInt32)) k).2.2.2.1 100 8 = (U.2.2.2.1 100 8) from rfl) (show ((upF U 100 8 o (fun i => ((((U.2.2.1 100 9).2 i) * ((U.2.2.1 100 10).2 i)).toInt16.toInt32)) k).2.2.1 100 8).1 = (U.2.2.1 100 8).1 from rfl) (by omega) (by omega))⟩) ?_
      rw [show (nI (o + k)).toNatClampNeg = o + k from nI_clamp (by omega)]
      obtain ⟨u21, r21, d21⟩ : um m (mu_si Hsc (mu_p (U.2.2.2.1 100 8)) (o + k) ((((U.2.2.1 100 9).2 k) * ((U.2.2.1 100 10).2 k)).toInt16.toInt32)) ∧ ur m C Hsc (mu_si Hsc (mu_p (U.2.2.2.1 100 8)) (o + k) ((((U.2.2.1 100 9).2 k) * ((U.2.2.1 100 10).2 k)).toInt16.toInt32)) ∧ ud m (mu_si Hsc (mu_p (U.2.2.2.1 100 8)) (o + k) ((((U.2.2.1 100 9).2 k) * ((U.2.2.1 100 10).2 k)).toInt16.toInt32)) = (upA (upF U 100 8 o (fun i => ((((U.2.2.1 100 9).2 i) * ((U.2.2.1 100 10).2 i)).toInt16.toInt32)) k) 100 8 (o + k) ((((U.2.2.1 100 9).2 k) * ((U.2.2.1 100 10).2 k)).toInt16.toInt32)) := uc.sA (C := C) dc rfl rfl (show (upF U 100 8 o (fun i => ((((U.2.2.1 100 9).2 i) * ((U.2.2.1 100 10).2 i)).toInt16.toInt32)) k).2.2.2.1 100 8 = (U.2.2.2.1 100 8) from rfl)
      generalize (mu_si Hsc (mu_p (U.2.2.2.1 100 8)) (o + k) ((((U.2.2.1 100 9).2 k) * ((U.2.2.1 100 10).2 k)).toInt16.toInt32)) = Q21 at u21 r21 d21 ⊢
      have ht21 : ur m C H Q21 := htc.trans r21
      refine mw_go mu_g227 (k := 1) (f1 := (173, [(3, .inl ((nI k) + 1)), (0, .inr (.inr (some 100))), (1, .inl (24 : Int32)), (2, .inl (nI o))], [], Q21)) (C := []) rfl trivial ?_
      rw [(show ((nI k) + 1) = (nI (k + 1)) from (nI_add k 1))]
      refine mw_go mu_g227 (k := 1) (f1 := (140, [(3, .inl (nI (k + 1))), (0, .inr (.inr (some 100))), (1, .inl (24 : Int32)), (2, .inl (nI o))], [], Q21)) (C := []) rfl trivial ?_
      exact mw_sub (by simp) (ihc (k + 1, Q21) ⟨u21, ht21, (show ud m Q21 = (upF U 100 8 o (fun i => ((((U.2.2.1 100 9).2 i) * ((U.2.2.1 100 10).2 i)).toInt16.toInt32)) (k + 1)) from (by rw [d21]; exact upF_next)), (show (k + 1) ≤ l from (by omega))⟩ (by show l - (k + 1) < l - k; omega))
    · -- 176: not (nI k) < (nI l)
      have nh20 : ¬ k < l := fun z => h20 (show nI k < nI l from (nI_ltI (by omega) (by omega)).mpr z)
      refine mw_go mu_g227 (k := 1) (f1 := (337, [(3, .inl (nI k)), (0, .inr (.inr (some 100))), (1, .inl (24 : Int32)), (2, .inl (nI o))], [], Hsc)) (C := []) rfl trivial ?_
      exact mw_of (fun _ => mu_ret rfl trivial ⟨Hsc, rfl, uc, htc, (by rw [dc]; exact upF_to (by omega) rfl)⟩)
  · obtain rfl : op = (25 : Int32) := Int32.toInt_inj.mp (z.trans (by decide))
    refine mw_go mu_g227 (k := 2) (f1 := (279, [(0, .inr (.inr (some 100))), (1, .inl (25 : Int32)), (2, .inl (nI o))], [.inl (19 : Int32), .inl (25 : Int32)], H)) (C := []) rfl trivial ?_
    refine mw_if (P := (25 : Int32) = (19 : Int32)) (a := 282) (b := 286) (fun _ => rfl) trivial (fun h22 => absurd h22 (by decide)) (fun h22 => ?_)
    refine mw_go mu_g227 (k := 4) (f1 := (292, [(5, .inl (0 : Int32)), (4, .inl (0 : Int32)), (0, .inr (.inr (some 100))), (1, .inl (25 : Int32)), (2, .inl (nI o))], [], H)) (C := []) rfl trivial ?_
    show mu_W _ _ (292, [(5, .inl (nI 0)), (4, .inl (0 : Int32)), (0, .inr (.inr (some 100))), (1, .inl (25 : Int32)), (2, .inl (nI o))], [], H) _
    refine mw_sub (L' := [(5, .inl (nI 0)), (0, .inr (.inr (some 100))), (1, .inl (25 : Int32)), (2, .inl (nI o)), (4, .inl (0 : Int32))]) (by simp) ?_
    refine mw_down (α := Nat × mu_H) (fun zs => (292, [(5, .inl (nI zs.1)), (0, .inr (.inr (some 100))), (1, .inl (25 : Int32)), (2, .inl (nI o)), (4, .inl (0 : Int32))], [], zs.2)) (fun zs => l - zs.1) (fun zs => um m zs.2 ∧ ur m C H zs.2 ∧ (ud m zs.2 = (upF U 100 8 o (fun i => (((((U.2.2.1 100 10).2 i) - ((U.2.2.1 100 9).2 i)).toUInt32 >>> ((31 : Int32).toUInt32 &&& Int32.toUInt32 31)).toInt32 ^^^ (0 : Int32))) zs.1)) ∧ (zs.1 ≤ l)) (fun zs hzf ihf => ?_) (0, H) ⟨h, (ur.refl m C H), (show ud m H = (upF U 100 8 o (fun i => (((((U.2.2.1 100 10).2 i) - ((U.2.2.1 100 9).2 i)).toUInt32 >>> ((31 : Int32).toUInt32 &&& Int32.toUInt32 31)).toInt32 ^^^ (0 : Int32))) 0) from (by rw [e]; exact upF_zero.symm)), (show 0 ≤ l from (by omega))⟩
    obtain ⟨k, Hsf⟩ := zs
    obtain ⟨uf, htf, df, hk⟩ := hzf
    have uf : um m Hsf := uf
    have htf : ur m C H Hsf := htf
    have df : ud m Hsf = (upF U 100 8 o (fun i => (((((U.2.2.1 100 10).2 i) - ((U.2.2.1 100 9).2 i)).toUInt32 >>> ((31 : Int32).toUInt32 &&& Int32.toUInt32 31)).toInt32 ^^^ (0 : Int32))) k) := df
    have hk : k ≤ l := hk
    show mu_W _ _ (292, [(5, .inl (nI k)), (0, .inr (.inr (some 100))), (1, .inl (25 : Int32)), (2, .inl (nI o)), (4, .inl (0 : Int32))], [], Hsf) _
    refine mw_go mu_g227 (k := 3) (f1 := (298, [(5, .inl (nI k)), (0, .inr (.inr (some 100))), (1, .inl (25 : Int32)), (2, .inl (nI o)), (4, .inl (0 : Int32))], [.inl (mu_i Hsf 100 18), .inl (nI k)], Hsf)) (C := [mu_is Hsf (some 100) 5]) rfl (show mu_is Hsf (some 100) 5 from (uf.1.1.is rfl)) ?_
    rw [(show mu_i Hsf 100 18 = (nI l) from (ud_i (m := m) (P := 100) (j := 18) df rfl).trans hl)]
    refine mw_if (P := (nI k) < (nI l)) (a := 301) (b := 337) (fun _ => rfl) trivial (fun h23 => ?_) (fun h23 => ?_)
    · -- 301: (nI k) < (nI l)
      have nh23 : k < l := (nI_ltI (by omega) (by omega)).mp (show nI k < nI l from h23)
      refine mw_go mu_g227 (k := 2) (f1 := (305, [(5, .inl (nI k)), (0, .inr (.inr (some 100))), (1, .inl (25 : Int32)), (2, .inl (nI o)), (4, .inl (0 : Int32))], [.inr (.inr (mu_r Hsf 100 8))], Hsf)) (C := [mu_is Hsf (some 100) 5]) rfl (show mu_is Hsf (some 100) 5 from (uf.1.1.is rfl)) ?_
      rw [(show mu_r Hsf 100 8 = (U.2.2.2.1 100 8) from (ud_q (m := m) (P := 100) (j := 8) df rfl))]
      refine mw_go mu_g227 (k := 3) (f1 := (309, [(5, .inl (nI k)), (0, .inr (.inr (some 100))), (1, .inl (25 : Int32)), (2, .inl (nI o)), (4, .inl (0 : Int32))], [.inl ((nI o) + (nI k)), .inr (.inr (U.2.2.2.1 100 8))], Hsf)) (C := []) rfl trivial ?_
      rw [(show ((nI o) + (nI k)) = (nI (o + k)) from (nI_add o k))]
      refine mw_go mu_g227 (k := 2) (f1 := (313, [(5, .inl (nI k)), (0, .inr (.inr (some 100))), (1, .inl (25 : Int32)), (2, .inl (nI o)), (4, .inl (0 : Int32))], [.inr (.inr (mu_r Hsf 100 10)), .inl (nI (o + k)), .inr (.inr (U.2.2.2.1 100 8))], Hsf)) (C := [mu_is Hsf (some 100) 5]) rfl (show mu_is Hsf (some 100) 5 from (uf.1.1.is rfl)) ?_
      rw [(uf.1.1.r (p := 100) (j := 10) (q := 108) rfl)]
      refine mw_go mu_g227 (k := 2) (f1 := (316, [(5, .inl (nI k)), (0, .inr (.inr (some 100))), (1, .inl (25 : Int32)), (2, .inl (nI o)), (4, .inl (0 : Int32))], [.inl (mu_i Hsf 108 (nI k).toNatClampNeg), .inl (nI (o + k)), .inr (.inr (U.2.2.2.1 100 8))], Hsf)) (C := [mu_isr Hsf (some 108) 100, vp_in (nI k) (mu_n Hsf 108)]) rfl (show (mu_isr Hsf (some 108) 100) ∧ (vp_in (nI k) (mu_n Hsf 108)) from ⟨((uf.iA df rfl rfl ((ud_q (m := m) (P := 100) (j := 10) df rfl).symm.trans (uf.1.1.r (p := 100) (j := 10) (q := 108) rfl)))).r, (by rw [show mu_n Hsf 108 = 1024 from (uf.1.1.a (p := 108) (x := (100, 1024)) rfl).2]; exact vp_in_nI (by omega) (by decide))⟩) ?_
      rw [(show (mu_i Hsf 108 (nI k).toNatClampNeg) = ((U.2.2.1 100 10).2 k) from ((congrArg (mu_i Hsf 108) (nI_clamp (by omega))).trans (uf.gA df rfl rfl ((ud_q (m := m) (P := 100) (j := 10) df rfl).symm.trans (uf.1.1.r (p := 100) (j := 10) (q := 108) rfl)))).trans ((congrArg (fun z => z.2 k) (show (upF U 100 8 o (fun i => (((((U.2.2.1 100 10).2 i) - ((U.2.2.1 100 9).2 i)).toUInt32 >>> ((31 : Int32).toUInt32 &&& Int32.toUInt32 31)).toInt32 ^^^ (0 : Int32))) k).2.2.1 100 10 = (U.2.2.1 100 10) from rfl)).trans rfl))]
      refine mw_go mu_g227 (k := 2) (f1 := (320, [(5, .inl (nI k)), (0, .inr (.inr (some 100))), (1, .inl (25 : Int32)), (2, .inl (nI o)), (4, .inl (0 : Int32))], [.inr (.inr (mu_r Hsf 100 9)), .inl ((U.2.2.1 100 10).2 k), .inl (nI (o + k)), .inr (.inr (U.2.2.2.1 100 8))], Hsf)) (C := [mu_is Hsf (some 100) 5]) rfl (show mu_is Hsf (some 100) 5 from (uf.1.1.is rfl)) ?_
      rw [(uf.1.1.r (p := 100) (j := 9) (q := 107) rfl)]
      refine mw_go mu_g227 (k := 2) (f1 := (323, [(5, .inl (nI k)), (0, .inr (.inr (some 100))), (1, .inl (25 : Int32)), (2, .inl (nI o)), (4, .inl (0 : Int32))], [.inl (mu_i Hsf 107 (nI k).toNatClampNeg), .inl ((U.2.2.1 100 10).2 k), .inl (nI (o + k)), .inr (.inr (U.2.2.2.1 100 8))], Hsf)) (C := [mu_isr Hsf (some 107) 100, vp_in (nI k) (mu_n Hsf 107)]) rfl (show (mu_isr Hsf (some 107) 100) ∧ (vp_in (nI k) (mu_n Hsf 107)) from ⟨((uf.iA df rfl rfl ((ud_q (m := m) (P := 100) (j := 9) df rfl).symm.trans (uf.1.1.r (p := 100) (j := 9) (q := 107) rfl)))).r, (by rw [show mu_n Hsf 107 = 1024 from (uf.1.1.a (p := 107) (x := (100, 1024)) rfl).2]; exact vp_in_nI (by omega) (by decide))⟩) ?_
      rw [(show (mu_i Hsf 107 (nI k).toNatClampNeg) = ((U.2.2.1 100 9).2 k) from ((congrArg (mu_i Hsf 107) (nI_clamp (by omega))).trans (uf.gA df rfl rfl ((ud_q (m := m) (P := 100) (j := 9) df rfl).symm.trans (uf.1.1.r (p := 100) (j := 9) (q := 107) rfl)))).trans ((congrArg (fun z => z.2 k) (show (upF U 100 8 o (fun i => (((((U.2.2.1 100 10).2 i) - ((U.2.2.1 100 9).2 i)).toUInt32 >>> ((31 : Int32).toUInt32 &&& Int32.toUInt32 31)).toInt32 ^^^ (0 : Int32))) k).2.2.1 100 9 = (U.2.2.1 100 9) from rfl)).trans rfl))]
      refine mw_go mu_g227 (k := 6) (f1 := (331, [(5, .inl (nI k)), (0, .inr (.inr (some 100))), (1, .inl (25 : Int32)), (2, .inl (nI o)), (4, .inl (0 : Int32))], [], (mu_si Hsf (mu_p (U.2.2.2.1 100 8)) (nI (o + k)).toNatClampNeg ((((((U.2.2.1 100 10).2 k) - ((U.2.2.1 100 9).2 k)).toUInt32 >>> ((31 : Int32).toUInt32 &&& Int32.toUInt32 31)).toInt32) ^^^ (0 : Int32))))) (C := [mu_is Hsf (U.2.2.2.1 100 8) 100, vp_in (nI (o + k)) (mu_n Hsf (mu_p (U.2.2.2.1 100 8)))]) rfl (show (mu_is Hsf (U.2.2.2.1 100 8) 100) ∧ (vp_in (nI (o + k)) (mu_n Hsf (mu_p (U.2.2.2.1 100 8)))) from ⟨(uf.iA df rfl rfl (show (upF U 100 8 o (fun i => (((((U.2.2.1 100 10).2 i) - ((U.2.2.1 100 9).2 i)).toUInt32 >>> ((31 : Int32).toUInt32 &&& Int32.toUInt32 31)).toInt32 ^^^ (0 : Int32))) k).2.2.2.1 100 8 = (U.2.2.2.1 100 8) from rfl)), (uf.vA df rfl rfl (show (upF U 100 8 o (fun i => (((((U.2.2.1 100 10).2 i) - ((U.2.2.1 100 9).2 i)).toUInt32 >>> ((31 : Int32).toUInt32 &&& Int32.toUInt32 31)).toInt32 ^^^ (0 : Int32))) k).2.2.2.1 100 8 = (U.2.2.2.1 100 8) from rfl) (show ((upF U 100 8 o (fun i => (((((U.2.2.1 100 10).2 i) - ((U.2.2.1 100 9).2 i)).toUInt32 >>> ((31 : Int32).toUInt32 &&& Int32.toUInt32 31)).toInt32 ^^^ (0 : Int32))) k).2.2.1 100 8).1 = (U.2.2.1 100 8).1 from rfl) (by omega) (by omega))⟩) ?_
      rw [show (nI (o + k)).toNatClampNeg = o + k from nI_clamp (by omega)]
      obtain ⟨u24, r24, d24⟩ : um m (mu_si Hsf (mu_p (U.2.2.2.1 100 8)) (o + k) ((((((U.2.2.1 100 10).2 k) - ((U.2.2.1 100 9).2 k)).toUInt32 >>> ((31 : Int32).toUInt32 &&& Int32.toUInt32 31)).toInt32) ^^^ (0 : Int32))) ∧ ur m C Hsf (mu_si Hsf (mu_p (U.2.2.2.1 100 8)) (o + k) ((((((U.2.2.1 100 10).2 k) - ((U.2.2.1 100 9).2 k)).toUInt32 >>> ((31 : Int32).toUInt32 &&& Int32.toUInt32 31)).toInt32) ^^^ (0 : Int32))) ∧ ud m (mu_si Hsf (mu_p (U.2.2.2.1 100 8)) (o + k) ((((((U.2.2.1 100 10).2 k) - ((U.2.2.1 100 9).2 k)).toUInt32 >>> ((31 : Int32).toUInt32 &&& Int32.toUInt32 31)).toInt32) ^^^ (0 : Int32))) = (upA (upF U 100 8 o (fun i => (((((U.2.2.1 100 10).2 i) - ((U.2.2.1 100 9).2 i)).toUInt32 >>> ((31 : Int32).toUInt32 &&& Int32.toUInt32 31)).toInt32 ^^^ (0 : Int32))) k) 100 8 (o + k) ((((((U.2.2.1 100 10).2 k) - ((U.2.2.1 100 9).2 k)).toUInt32 >>> ((31 : Int32).toUInt32 &&& Int32.toUInt32 31)).toInt32) ^^^ (0 : Int32))) := uf.sA (C := C) df rfl rfl (show (upF U 100 8 o (fun i => (((((U.2.2.1 100 10).2 i) - ((U.2.2.1 100 9).2 i)).toUInt32 >>> ((31 : Int32).toUInt32 &&& Int32.toUInt32 31)).toInt32 ^^^ (0 : Int32))) k).2.2.2.1 100 8 = (U.2.2.2.1 100 8) from rfl)
      generalize (mu_si Hsf (mu_p (U.2.2.2.1 100 8)) (o + k) ((((((U.2.2.1 100 10).2 k) - ((U.2.2.1 100 9).2 k)).toUInt32 >>> ((31 : Int32).toUInt32 &&& Int32.toUInt32 31)).toInt32) ^^^ (0 : Int32))) = Q24 at u24 r24 d24 ⊢
      have ht24 : ur m C H Q24 := htf.trans r24
      refine mw_go mu_g227 (k := 1) (f1 := (334, [(5, .inl ((nI k) + 1)), (0, .inr (.inr (some 100))), (1, .inl (25 : Int32)), (2, .inl (nI o)), (4, .inl (0 : Int32))], [], Q24)) (C := []) rfl trivial ?_
      rw [(show ((nI k) + 1) = (nI (k + 1)) from (nI_add k 1))]
      refine mw_go mu_g227 (k := 1) (f1 := (292, [(5, .inl (nI (k + 1))), (0, .inr (.inr (some 100))), (1, .inl (25 : Int32)), (2, .inl (nI o)), (4, .inl (0 : Int32))], [], Q24)) (C := []) rfl trivial ?_
      exact mw_sub (by simp) (ihf (k + 1, Q24) ⟨u24, ht24, (show ud m Q24 = (upF U 100 8 o (fun i => (((((U.2.2.1 100 10).2 i) - ((U.2.2.1 100 9).2 i)).toUInt32 >>> ((31 : Int32).toUInt32 &&& Int32.toUInt32 31)).toInt32 ^^^ (0 : Int32))) (k + 1)) from (by rw [d24]; exact upF_next)), (show (k + 1) ≤ l from (by omega))⟩ (by show l - (k + 1) < l - k; omega))
    · -- 337: not (nI k) < (nI l)
      have nh23 : ¬ k < l := fun z => h23 (show nI k < nI l from (nI_ltI (by omega) (by omega)).mpr z)
      exact mw_of (fun _ => mu_ret rfl trivial ⟨Hsf, rfl, uf, htf, (by rw [df]; exact upF_to (by omega) rfl)⟩)
  · obtain rfl : op = (26 : Int32) := Int32.toInt_inj.mp (z.trans (by decide))
    refine mw_go mu_g227 (k := 2) (f1 := (279, [(0, .inr (.inr (some 100))), (1, .inl (26 : Int32)), (2, .inl (nI o))], [.inl (19 : Int32), .inl (26 : Int32)], H)) (C := []) rfl trivial ?_
    refine mw_if (P := (26 : Int32) = (19 : Int32)) (a := 282) (b := 286) (fun _ => rfl) trivial (fun h25 => absurd h25 (by decide)) (fun h25 => ?_)
    refine mw_go mu_g227 (k := 4) (f1 := (292, [(5, .inl (0 : Int32)), (4, .inl (0 : Int32)), (0, .inr (.inr (some 100))), (1, .inl (26 : Int32)), (2, .inl (nI o))], [], H)) (C := []) rfl trivial ?_
    show mu_W _ _ (292, [(5, .inl (nI 0)), (4, .inl (0 : Int32)), (0, .inr (.inr (some 100))), (1, .inl (26 : Int32)), (2, .inl (nI o))], [], H) _
    refine mw_sub (L' := [(5, .inl (nI 0)), (0, .inr (.inr (some 100))), (1, .inl (26 : Int32)), (2, .inl (nI o)), (4, .inl (0 : Int32))]) (by simp) ?_
    refine mw_down (α := Nat × mu_H) (fun zs => (292, [(5, .inl (nI zs.1)), (0, .inr (.inr (some 100))), (1, .inl (26 : Int32)), (2, .inl (nI o)), (4, .inl (0 : Int32))], [], zs.2)) (fun zs => l - zs.1) (fun zs => um m zs.2 ∧ ur m C H zs.2 ∧ (ud m zs.2 = (upF U 100 8 o (fun i => (((((U.2.2.1 100 10).2 i) - ((U.2.2.1 100 9).2 i)).toUInt32 >>> ((31 : Int32).toUInt32 &&& Int32.toUInt32 31)).toInt32 ^^^ (0 : Int32))) zs.1)) ∧ (zs.1 ≤ l)) (fun zs hzf ihf => ?_) (0, H) ⟨h, (ur.refl m C H), (show ud m H = (upF U 100 8 o (fun i => (((((U.2.2.1 100 10).2 i) - ((U.2.2.1 100 9).2 i)).toUInt32 >>> ((31 : Int32).toUInt32 &&& Int32.toUInt32 31)).toInt32 ^^^ (0 : Int32))) 0) from (by rw [e]; exact upF_zero.symm)), (show 0 ≤ l from (by omega))⟩
    obtain ⟨k, Hsf⟩ := zs
    obtain ⟨uf, htf, df, hk⟩ := hzf
    have uf : um m Hsf := uf
    have htf : ur m C H Hsf := htf
    have df : ud m Hsf = (upF U 100 8 o (fun i => (((((U.2.2.1 100 10).2 i) - ((U.2.2.1 100 9).2 i)).toUInt32 >>> ((31 : Int32).toUInt32 &&& Int32.toUInt32 31)).toInt32 ^^^ (0 : Int32))) k) := df
    have hk : k ≤ l := hk
    show mu_W _ _ (292, [(5, .inl (nI k)), (0, .inr (.inr (some 100))), (1, .inl (26 : Int32)), (2, .inl (nI o)), (4, .inl (0 : Int32))], [], Hsf) _
    refine mw_go mu_g227 (k := 3) (f1 := (298, [(5, .inl (nI k)), (0, .inr (.inr (some 100))), (1, .inl (26 : Int32)), (2, .inl (nI o)), (4, .inl (0 : Int32))], [.inl (mu_i Hsf 100 18), .inl (nI k)], Hsf)) (C := [mu_is Hsf (some 100) 5]) rfl (show mu_is Hsf (some 100) 5 from (uf.1.1.is rfl)) ?_
    rw [(show mu_i Hsf 100 18 = (nI l) from (ud_i (m := m) (P := 100) (j := 18) df rfl).trans hl)]
    refine mw_if (P := (nI k) < (nI l)) (a := 301) (b := 337) (fun _ => rfl) trivial (fun h26 => ?_) (fun h26 => ?_)
    · -- 301: (nI k) < (nI l)
      have nh26 : k < l := (nI_ltI (by omega) (by omega)).mp (show nI k < nI l from h26)
      refine mw_go mu_g227 (k := 2) (f1 := (305, [(5, .inl (nI k)), (0, .inr (.inr (some 100))), (1, .inl (26 : Int32)), (2, .inl (nI o)), (4, .inl (0 : Int32))], [.inr (.inr (mu_r Hsf 100 8))], Hsf)) (C := [mu_is Hsf (some 100) 5]) rfl (show mu_is Hsf (some 100) 5 from (uf.1.1.is rfl)) ?_
      rw [(show mu_r Hsf 100 8 = (U.2.2.2.1 100 8) from (ud_q (m := m) (P := 100) (j := 8) df rfl))]
      refine mw_go mu_g227 (k := 3) (f1 := (309, [(5, .inl (nI k)), (0, .inr (.inr (some 100))), (1, .inl (26 : Int32)), (2, .inl (nI o)), (4, .inl (0 : Int32))], [.inl ((nI o) + (nI k)), .inr (.inr (U.2.2.2.1 100 8))], Hsf)) (C := []) rfl trivial ?_
      rw [(show ((nI o) + (nI k)) = (nI (o + k)) from (nI_add o k))]
      refine mw_go mu_g227 (k := 2) (f1 := (313, [(5, .inl (nI k)), (0, .inr (.inr (some 100))), (1, .inl (26 : Int32)), (2, .inl (nI o)), (4, .inl (0 : Int32))], [.inr (.inr (mu_r Hsf 100 10)), .inl (nI (o + k)), .inr (.inr (U.2.2.2.1 100 8))], Hsf)) (C := [mu_is Hsf (some 100) 5]) rfl (show mu_is Hsf (some 100) 5 from (uf.1.1.is rfl)) ?_
      rw [(uf.1.1.r (p := 100) (j := 10) (q := 108) rfl)]
      refine mw_go mu_g227 (k := 2) (f1 := (316, [(5, .inl (nI k)), (0, .inr (.inr (some 100))), (1, .inl (26 : Int32)), (2, .inl (nI o)), (4, .inl (0 : Int32))], [.inl (mu_i Hsf 108 (nI k).toNatClampNeg), .inl (nI (o + k)), .inr (.inr (U.2.2.2.1 100 8))], Hsf)) (C := [mu_isr Hsf (some 108) 100, vp_in (nI k) (mu_n Hsf 108)]) rfl (show (mu_isr Hsf (some 108) 100) ∧ (vp_in (nI k) (mu_n Hsf 108)) from ⟨((uf.iA df rfl rfl ((ud_q (m := m) (P := 100) (j := 10) df rfl).symm.trans (uf.1.1.r (p := 100) (j := 10) (q := 108) rfl)))).r, (by rw [show mu_n Hsf 108 = 1024 from (uf.1.1.a (p := 108) (x := (100, 1024)) rfl).2]; exact vp_in_nI (by omega) (by decide))⟩) ?_
      rw [(show (mu_i Hsf 108 (nI k).toNatClampNeg) = ((U.2.2.1 100 10).2 k) from ((congrArg (mu_i Hsf 108) (nI_clamp (by omega))).trans (uf.gA df rfl rfl ((ud_q (m := m) (P := 100) (j := 10) df rfl).symm.trans (uf.1.1.r (p := 100) (j := 10) (q := 108) rfl)))).trans ((congrArg (fun z => z.2 k) (show (upF U 100 8 o (fun i => (((((U.2.2.1 100 10).2 i) - ((U.2.2.1 100 9).2 i)).toUInt32 >>> ((31 : Int32).toUInt32 &&& Int32.toUInt32 31)).toInt32 ^^^ (0 : Int32))) k).2.2.1 100 10 = (U.2.2.1 100 10) from rfl)).trans rfl))]
      refine mw_go mu_g227 (k := 2) (f1 := (320, [(5, .inl (nI k)), (0, .inr (.inr (some 100))), (1, .inl (26 : Int32)), (2, .inl (nI o)), (4, .inl (0 : Int32))], [.inr (.inr (mu_r Hsf 100 9)), .inl ((U.2.2.1 100 10).2 k), .inl (nI (o + k)), .inr (.inr (U.2.2.2.1 100 8))], Hsf)) (C := [mu_is Hsf (some 100) 5]) rfl (show mu_is Hsf (some 100) 5 from (uf.1.1.is rfl)) ?_
      rw [(uf.1.1.r (p := 100) (j := 9) (q := 107) rfl)]
      refine mw_go mu_g227 (k := 2) (f1 := (323, [(5, .inl (nI k)), (0, .inr (.inr (some 100))), (1, .inl (26 : Int32)), (2, .inl (nI o)), (4, .inl (0 : Int32))], [.inl (mu_i Hsf 107 (nI k).toNatClampNeg), .inl ((U.2.2.1 100 10).2 k), .inl (nI (o + k)), .inr (.inr (U.2.2.2.1 100 8))], Hsf)) (C := [mu_isr Hsf (some 107) 100, vp_in (nI k) (mu_n Hsf 107)]) rfl (show (mu_isr Hsf (some 107) 100) ∧ (vp_in (nI k) (mu_n Hsf 107)) from ⟨((uf.iA df rfl rfl ((ud_q (m := m) (P := 100) (j := 9) df rfl).symm.trans (uf.1.1.r (p := 100) (j := 9) (q := 107) rfl)))).r, (by rw [show mu_n Hsf 107 = 1024 from (uf.1.1.a (p := 107) (x := (100, 1024)) rfl).2]; exact vp_in_nI (by omega) (by decide))⟩) ?_
      rw [(show (mu_i Hsf 107 (nI k).toNatClampNeg) = ((U.2.2.1 100 9).2 k) from ((congrArg (mu_i Hsf 107) (nI_clamp (by omega))).trans (uf.gA df rfl rfl ((ud_q (m := m) (P := 100) (j := 9) df rfl).symm.trans (uf.1.1.r (p := 100) (j := 9) (q := 107) rfl)))).trans ((congrArg (fun z => z.2 k) (show (upF U 100 8 o (fun i => (((((U.2.2.1 100 10).2 i) - ((U.2.2.1 100 9).2 i)).toUInt32 >>> ((31 : Int32).toUInt32 &&& Int32.toUInt32 31)).toInt32 ^^^ (0 : Int32))) k).2.2.1 100 9 = (U.2.2.1 100 9) from rfl)).trans rfl))]
      refine mw_go mu_g227 (k := 6) (f1 := (331, [(5, .inl (nI k)), (0, .inr (.inr (some 100))), (1, .inl (26 : Int32)), (2, .inl (nI o)), (4, .inl (0 : Int32))], [], (mu_si Hsf (mu_p (U.2.2.2.1 100 8)) (nI (o + k)).toNatClampNeg ((((((U.2.2.1 100 10).2 k) - ((U.2.2.1 100 9).2 k)).toUInt32 >>> ((31 : Int32).toUInt32 &&& Int32.toUInt32 31)).toInt32) ^^^ (0 : Int32))))) (C := [mu_is Hsf (U.2.2.2.1 100 8) 100, vp_in (nI (o + k)) (mu_n Hsf (mu_p (U.2.2.2.1 100 8)))]) rfl (show (mu_is Hsf (U.2.2.2.1 100 8) 100) ∧ (vp_in (nI (o + k)) (mu_n Hsf (mu_p (U.2.2.2.1 100 8)))) from ⟨(uf.iA df rfl rfl (show (upF U 100 8 o (fun i => (((((U.2.2.1 100 10).2 i) - ((U.2.2.1 100 9).2 i)).toUInt32 >>> ((31 : Int32).toUInt32 &&& Int32.toUInt32 31)).toInt32 ^^^ (0 : Int32))) k).2.2.2.1 100 8 = (U.2.2.2.1 100 8) from rfl)), (uf.vA df rfl rfl (show (upF U 100 8 o (fun i => (((((U.2.2.1 100 10).2 i) - ((U.2.2.1 100 9).2 i)).toUInt32 >>> ((31 : Int32).toUInt32 &&& Int32.toUInt32 31)).toInt32 ^^^ (0 : Int32))) k).2.2.2.1 100 8 = (U.2.2.2.1 100 8) from rfl) (show ((upF U 100 8 o (fun i => (((((U.2.2.1 100 10).2 i) - ((U.2.2.1 100 9).2 i)).toUInt32 >>> ((31 : Int32).toUInt32 &&& Int32.toUInt32 31)).toInt32 ^^^ (0 : Int32))) k).2.2.1 100 8).1 = (U.2.2.1 100 8).1 from rfl) (by omega) (by omega))⟩) ?_
      rw [show (nI (o + k)).toNatClampNeg = o + k from nI_clamp (by omega)]
      obtain ⟨u27, r27, d27⟩ : um m (mu_si Hsf (mu_p (U.2.2.2.1 100 8)) (o + k) ((((((U.2.2.1 100 10).2 k) - ((U.2.2.1 100 9).2 k)).toUInt32 >>> ((31 : Int32).toUInt32 &&& Int32.toUInt32 31)).toInt32) ^^^ (0 : Int32))) ∧ ur m C Hsf (mu_si Hsf (mu_p (U.2.2.2.1 100 8)) (o + k) ((((((U.2.2.1 100 10).2 k) - ((U.2.2.1 100 9).2 k)).toUInt32 >>> ((31 : Int32).toUInt32 &&& Int32.toUInt32 31)).toInt32) ^^^ (0 : Int32))) ∧ ud m (mu_si Hsf (mu_p (U.2.2.2.1 100 8)) (o + k) ((((((U.2.2.1 100 10).2 k) - ((U.2.2.1 100 9).2 k)).toUInt32 >>> ((31 : Int32).toUInt32 &&& Int32.toUInt32 31)).toInt32) ^^^ (0 : Int32))) = (upA (upF U 100 8 o (fun i => (((((U.2.2.1 100 10).2 i) - ((U.2.2.1 100 9).2 i)).toUInt32 >>> ((31 : Int32).toUInt32 &&& Int32.toUInt32 31)).toInt32 ^^^ (0 : Int32))) k) 100 8 (o + k) ((((((U.2.2.1 100 10).2 k) - ((U.2.2.1 100 9).2 k)).toUInt32 >>> ((31 : Int32).toUInt32 &&& Int32.toUInt32 31)).toInt32) ^^^ (0 : Int32))) := uf.sA (C := C) df rfl rfl (show (upF U 100 8 o (fun i => (((((U.2.2.1 100 10).2 i) - ((U.2.2.1 100 9).2 i)).toUInt32 >>> ((31 : Int32).toUInt32 &&& Int32.toUInt32 31)).toInt32 ^^^ (0 : Int32))) k).2.2.2.1 100 8 = (U.2.2.2.1 100 8) from rfl)
      generalize (mu_si Hsf (mu_p (U.2.2.2.1 100 8)) (o + k) ((((((U.2.2.1 100 10).2 k) - ((U.2.2.1 100 9).2 k)).toUInt32 >>> ((31 : Int32).toUInt32 &&& Int32.toUInt32 31)).toInt32) ^^^ (0 : Int32))) = Q27 at u27 r27 d27 ⊢
      have ht27 : ur m C H Q27 := htf.trans r27
      refine mw_go mu_g227 (k := 1) (f1 := (334, [(5, .inl ((nI k) + 1)), (0, .inr (.inr (some 100))), (1, .inl (26 : Int32)), (2, .inl (nI o)), (4, .inl (0 : Int32))], [], Q27)) (C := []) rfl trivial ?_
      rw [(show ((nI k) + 1) = (nI (k + 1)) from (nI_add k 1))]
      refine mw_go mu_g227 (k := 1) (f1 := (292, [(5, .inl (nI (k + 1))), (0, .inr (.inr (some 100))), (1, .inl (26 : Int32)), (2, .inl (nI o)), (4, .inl (0 : Int32))], [], Q27)) (C := []) rfl trivial ?_
      exact mw_sub (by simp) (ihf (k + 1, Q27) ⟨u27, ht27, (show ud m Q27 = (upF U 100 8 o (fun i => (((((U.2.2.1 100 10).2 i) - ((U.2.2.1 100 9).2 i)).toUInt32 >>> ((31 : Int32).toUInt32 &&& Int32.toUInt32 31)).toInt32 ^^^ (0 : Int32))) (k + 1)) from (by rw [d27]; exact upF_next)), (show (k + 1) ≤ l from (by omega))⟩ (by show l - (k + 1) < l - k; omega))
    · -- 337: not (nI k) < (nI l)
      have nh26 : ¬ k < l := fun z => h26 (show nI k < nI l from (nI_ltI (by omega) (by omega)).mpr z)
      exact mw_of (fun _ => mu_ret rfl trivial ⟨Hsf, rfl, uf, htf, (by rw [df]; exact upF_to (by omega) rfl)⟩)
  · obtain rfl : op = (27 : Int32) := Int32.toInt_inj.mp (z.trans (by decide))
    refine mw_go mu_g227 (k := 2) (f1 := (181, [(3, .inl (0 : Int32)), (0, .inr (.inr (some 100))), (1, .inl (27 : Int32)), (2, .inl (nI o))], [], H)) (C := []) rfl trivial ?_
    show mu_W _ _ (181, [(3, .inl (nI 0)), (0, .inr (.inr (some 100))), (1, .inl (27 : Int32)), (2, .inl (nI o))], [], H) _
    refine mw_sub (L' := [(3, .inl (nI 0)), (0, .inr (.inr (some 100))), (1, .inl (27 : Int32)), (2, .inl (nI o))]) (by simp) ?_
    refine mw_down (α := Nat × mu_H) (fun zs => (181, [(3, .inl (nI zs.1)), (0, .inr (.inr (some 100))), (1, .inl (27 : Int32)), (2, .inl (nI o))], [], zs.2)) (fun zs => l - zs.1) (fun zs => um m zs.2 ∧ ur m C H zs.2 ∧ (ud m zs.2 = (upF U 100 8 o (fun i => ((-((U.2.2.1 100 9).2 i)).toInt16.toInt32)) zs.1)) ∧ (zs.1 ≤ l)) (fun zs hzd ihd => ?_) (0, H) ⟨h, (ur.refl m C H), (show ud m H = (upF U 100 8 o (fun i => ((-((U.2.2.1 100 9).2 i)).toInt16.toInt32)) 0) from (by rw [e]; exact upF_zero.symm)), (show 0 ≤ l from (by omega))⟩
    obtain ⟨k, Hsd⟩ := zs
    obtain ⟨ud, htd, dd, hk⟩ := hzd
    have ud : um m Hsd := ud
    have htd : ur m C H Hsd := htd
    have dd : ud m Hsd = (upF U 100 8 o (fun i => ((-((U.2.2.1 100 9).2 i)).toInt16.toInt32)) k) := dd
    have hk : k ≤ l := hk
    show mu_W _ _ (181, [(3, .inl (nI k)), (0, .inr (.inr (some 100))), (1, .inl (27 : Int32)), (2, .inl (nI o))], [], Hsd) _
    refine mw_go mu_g227 (k := 3) (f1 := (186, [(3, .inl (nI k)), (0, .inr (.inr (some 100))), (1, .inl (27 : Int32)), (2, .inl (nI o))], [.inl (mu_i Hsd 100 18), .inl (nI k)], Hsd)) (C := [mu_is Hsd (some 100) 5]) rfl (show mu_is Hsd (some 100) 5 from (ud.1.1.is rfl)) ?_
    rw [(show mu_i Hsd 100 18 = (nI l) from (ud_i (m := m) (P := 100) (j := 18) dd rfl).trans hl)]
    refine mw_if (P := (nI k) < (nI l)) (a := 189) (b := 211) (fun _ => rfl) trivial (fun h28 => ?_) (fun h28 => ?_)
    · -- 189: (nI k) < (nI l)
      have nh28 : k < l := (nI_ltI (by omega) (by omega)).mp (show nI k < nI l from h28)
      refine mw_go mu_g227 (k := 2) (f1 := (193, [(3, .inl (nI k)), (0, .inr (.inr (some 100))), (1, .inl (27 : Int32)), (2, .inl (nI o))], [.inr (.inr (mu_r Hsd 100 8))], Hsd)) (C := [mu_is Hsd (some 100) 5]) rfl (show mu_is Hsd (some 100) 5 from (ud.1.1.is rfl)) ?_
      rw [(show mu_r Hsd 100 8 = (U.2.2.2.1 100 8) from (ud_q (m := m) (P := 100) (j := 8) dd rfl))]
      refine mw_go mu_g227 (k := 3) (f1 := (196, [(3, .inl (nI k)), (0, .inr (.inr (some 100))), (1, .inl (27 : Int32)), (2, .inl (nI o))], [.inl ((nI o) + (nI k)), .inr (.inr (U.2.2.2.1 100 8))], Hsd)) (C := []) rfl trivial ?_
      rw [(show ((nI o) + (nI k)) = (nI (o + k)) from (nI_add o k))]
      refine mw_go mu_g227 (k := 2) (f1 := (200, [(3, .inl (nI k)), (0, .inr (.inr (some 100))), (1, .inl (27 : Int32)), (2, .inl (nI o))], [.inr (.inr (mu_r Hsd 100 9)), .inl (nI (o + k)), .inr (.inr (U.2.2.2.1 100 8))], Hsd)) (C := [mu_is Hsd (some 100) 5]) rfl (show mu_is Hsd (some 100) 5 from (ud.1.1.is rfl)) ?_
      rw [(ud.1.1.r (p := 100) (j := 9) (q := 107) rfl)]
      refine mw_go mu_g227 (k := 2) (f1 := (202, [(3, .inl (nI k)), (0, .inr (.inr (some 100))), (1, .inl (27 : Int32)), (2, .inl (nI o))], [.inl (mu_i Hsd 107 (nI k).toNatClampNeg), .inl (nI (o + k)), .inr (.inr (U.2.2.2.1 100 8))], Hsd)) (C := [mu_isr Hsd (some 107) 100, vp_in (nI k) (mu_n Hsd 107)]) rfl (show (mu_isr Hsd (some 107) 100) ∧ (vp_in (nI k) (mu_n Hsd 107)) from ⟨((ud.iA dd rfl rfl ((ud_q (m := m) (P := 100) (j := 9) dd rfl).symm.trans (ud.1.1.r (p := 100) (j := 9) (q := 107) rfl)))).r, (by rw [show mu_n Hsd 107 = 1024 from (ud.1.1.a (p := 107) (x := (100, 1024)) rfl).2]; exact vp_in_nI (by omega) (by decide))⟩) ?_
      rw [(show (mu_i Hsd 107 (nI k).toNatClampNeg) = ((U.2.2.1 100 9).2 k) from ((congrArg (mu_i Hsd 107) (nI_clamp (by omega))).trans (ud.gA dd rfl rfl ((ud_q (m := m) (P := 100) (j := 9) dd rfl).symm.trans (ud.1.1.r (p := 100) (j := 9) (q := 107) rfl)))).trans ((congrArg (fun z => z.2 k) (show (upF U 100 8 o (fun i => ((-((U.2.2.1 100 9).2 i)).toInt16.toInt32)) k).2.2.1 100 9 = (U.2.2.1 100 9) from rfl)).trans rfl))]
      refine mw_go mu_g227 (k := 3) (f1 := (205, [(3, .inl (nI k)), (0, .inr (.inr (some 100))), (1, .inl (27 : Int32)), (2, .inl (nI o))], [], (mu_si Hsd (mu_p (U.2.2.2.1 100 8)) (nI (o + k)).toNatClampNeg ((-((U.2.2.1 100 9).2 k)).toInt16.toInt32)))) (C := [mu_is Hsd (U.2.2.2.1 100 8) 100, vp_in (nI (o + k)) (mu_n Hsd (mu_p (U.2.2.2.1 100 8)))]) rfl (show (mu_is Hsd (U.2.2.2.1 100 8) 100) ∧ (vp_in (nI (o + k)) (mu_n Hsd (mu_p (U.2.2.2.1 100 8)))) from ⟨(ud.iA dd rfl rfl (show (upF U 100 8 o (fun i => ((-((U.2.2.1 100 9).2 i)).toInt16.toInt32)) k).2.2.2.1 100 8 = (U.2.2.2.1 100 8) from rfl)), (ud.vA dd rfl rfl (show (upF U 100 8 o (fun i => ((-((U.2.2.1 100 9).2 i)).toInt16.toInt32)) k).2.2.2.1 100 8 = (U.2.2.2.1 100 8) from rfl) (show ((upF U 100 8 o (fun i => ((-((U.2.2.1 100 9).2 i)).toInt16.toInt32)) k).2.2.1 100 8).1 = (U.2.2.1 100 8).1 from rfl) (by omega) (by omega))⟩) ?_
      rw [show (nI (o + k)).toNatClampNeg = o + k from nI_clamp (by omega)]
      obtain ⟨u29, r29, d29⟩ : um m (mu_si Hsd (mu_p (U.2.2.2.1 100 8)) (o + k) ((-((U.2.2.1 100 9).2 k)).toInt16.toInt32)) ∧ ur m C Hsd (mu_si Hsd (mu_p (U.2.2.2.1 100 8)) (o + k) ((-((U.2.2.1 100 9).2 k)).toInt16.toInt32)) ∧ ud m (mu_si Hsd (mu_p (U.2.2.2.1 100 8)) (o + k) ((-((U.2.2.1 100 9).2 k)).toInt16.toInt32)) = (upA (upF U 100 8 o (fun i => ((-((U.2.2.1 100 9).2 i)).toInt16.toInt32)) k) 100 8 (o + k) ((-((U.2.2.1 100 9).2 k)).toInt16.toInt32)) := ud.sA (C := C) dd rfl rfl (show (upF U 100 8 o (fun i => ((-((U.2.2.1 100 9).2 i)).toInt16.toInt32)) k).2.2.2.1 100 8 = (U.2.2.2.1 100 8) from rfl)
      generalize (mu_si Hsd (mu_p (U.2.2.2.1 100 8)) (o + k) ((-((U.2.2.1 100 9).2 k)).toInt16.toInt32)) = Q29 at u29 r29 d29 ⊢
      have ht29 : ur m C H Q29 := htd.trans r29
      refine mw_go mu_g227 (k := 1) (f1 := (208, [(3, .inl ((nI k) + 1)), (0, .inr (.inr (some 100))), (1, .inl (27 : Int32)), (2, .inl (nI o))], [], Q29)) (C := []) rfl trivial ?_
      rw [(show ((nI k) + 1) = (nI (k + 1)) from (nI_add k 1))]
      refine mw_go mu_g227 (k := 1) (f1 := (181, [(3, .inl (nI (k + 1))), (0, .inr (.inr (some 100))), (1, .inl (27 : Int32)), (2, .inl (nI o))], [], Q29)) (C := []) rfl trivial ?_
      exact mw_sub (by simp) (ihd (k + 1, Q29) ⟨u29, ht29, (show ud m Q29 = (upF U 100 8 o (fun i => ((-((U.2.2.1 100 9).2 i)).toInt16.toInt32)) (k + 1)) from (by rw [d29]; exact upF_next)), (show (k + 1) ≤ l from (by omega))⟩ (by show l - (k + 1) < l - k; omega))
    · -- 211: not (nI k) < (nI l)
      have nh28 : ¬ k < l := fun z => h28 (show nI k < nI l from (nI_ltI (by omega) (by omega)).mpr z)
      refine mw_go mu_g227 (k := 1) (f1 := (337, [(3, .inl (nI k)), (0, .inr (.inr (some 100))), (1, .inl (27 : Int32)), (2, .inl (nI o))], [], Hsd)) (C := []) rfl trivial ?_
      exact mw_of (fun _ => mu_ret rfl trivial ⟨Hsd, rfl, ud, htd, (by rw [dd]; exact upF_to (by omega) rfl)⟩)
end Cells
