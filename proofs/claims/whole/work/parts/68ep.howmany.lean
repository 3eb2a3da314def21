/-! The reference: howMany; how many values a TYPE has -/
/-- PathProverModel.howMany(LPathProverModel$Node;)I -/
abbrev mu_m429 : ev_M := (2, (some .int), [], ev_b429)
theorem mu_g429 : mu_good mu_m429 := mu_goodk ev_k429
def hmI (c : Tre) : Int32 := if tkd c = 39 then 2 else if tkd c = 71 then tnu (tkk c 1) - tnu (tkk c 0) + 1 else nI (tsn c)
/-- how many values a TYPE has -/
def hmn (c : Tre) : Nat := if tkd c = 39 then 2 else if tkd c = 71 then ((tnu (tkk c 1)).toInt - (tnu (tkk c 0)).toInt + 1).toNat else tsn c
/-- the numbers of a range -/
def tynu (c : Tre) : Prop := tkd c = 71 → -32768 ≤ (tnu (tkk c 0)).toInt ∧ (tnu (tkk c 0)).toInt ≤ (tnu (tkk c 1)).toInt ∧ (tnu (tkk c 1)).toInt ≤ 32767
theorem i32_sub {x y : Int32} (h1 : -2147483648 ≤ x.toInt - y.toInt) (h2 : x.toInt - y.toInt < 2147483648) : (x - y).toInt = x.toInt - y.toInt := by
  have e1 : (((2 ^ 32 : Nat) : Int) / 2 : Int) = 2147483648 := by decide
  have e2 : ((((2 ^ 32 : Nat) : Int) + 1) / 2 : Int) = 2147483648 := by decide
  rw [Int32.toInt_sub, Int.bmod_eq_of_le]
  · show -(((2 ^ 32 : Nat) : Int) / 2 : Int) ≤ _
    omega
  · show _ < (((2 ^ 32 : Nat) : Int) + 1) / 2
    omega
theorem i32_add {x y : Int32} (h1 : -2147483648 ≤ x.toInt + y.toInt) (h2 : x.toInt + y.toInt < 2147483648) : (x + y).toInt = x.toInt + y.toInt := by
  have e1 : (((2 ^ 32 : Nat) : Int) / 2 : Int) = 2147483648 := by decide
  have e2 : ((((2 ^ 32 : Nat) : Int) + 1) / 2 : Int) = 2147483648 := by decide
  rw [Int32.toInt_add, Int.bmod_eq_of_le]
  · show -(((2 ^ 32 : Nat) : Int) / 2 : Int) ≤ _
    omega
  · show _ < (((2 ^ 32 : Nat) : Int) + 1) / 2
    omega
theorem hmI_n {c : Tre} (h : tyw c) (hn : tynu c) (h72 : ¬ tkd c = 72) (hs : tsn c ≤ 2 ^ 21) : hmI c = nI (hmn c) ∧ 1 ≤ hmn c ∧ hmn c ≤ 2 ^ 21 := by
  unfold hmI hmn
  by_cases e1 : tkd c = 39
  · rw [if_pos e1, if_pos e1]; exact ⟨rfl, by decide, by decide⟩
  · rw [if_neg e1, if_neg e1]
    by_cases e2 : tkd c = 71
    · rw [if_pos e2, if_pos e2]
      obtain ⟨n1, n2, n3⟩ := hn e2
      have k1 : (tnu (tkk c 1) - tnu (tkk c 0)).toInt = (tnu (tkk c 1)).toInt - (tnu (tkk c 0)).toInt := i32_sub (by omega) (by omega)
      have o1 : (1 : Int32).toInt = 1 := by decide
      have k2 : (tnu (tkk c 1) - tnu (tkk c 0) + 1).toInt = (tnu (tkk c 1)).toInt - (tnu (tkk c 0)).toInt + 1 := by rw [i32_add (by rw [k1, o1]; omega) (by rw [k1, o1]; omega), k1, o1]
      refine ⟨Int32.toInt_inj.mp ?_, by omega, by omega⟩
      rw [k2, rI_int (by omega), Int.toNat_of_nonneg (by omega)]
    · rw [if_neg e2, if_neg e2]
      refine ⟨rfl, ?_, hs⟩
      rcases h with z | z | z | z
      · exact absurd z.1 e1
      · exact z.2.1
      · exact absurd z.1 e2
      · exact absurd z.1 h72
theorem tyw.rng {c : Tre} (h : tyw c) (hk : tkd c = 71) : tsn c = 2 ∧ tkd (tkk c 0) = 63 ∧ tkd (tkk c 1) = 63 := by
  rcases h with z | z | z | z
  · rw [z.1] at hk; exact absurd hk (by decide)
  · rw [z.1] at hk; exact absurd hk (by decide)
  · exact ⟨z.2.1, z.2.2.1.1, z.2.2.2.1⟩
  · rw [z.1] at hk; exact absurd hk (by decide)
theorem rp_howMany {Hb H : mu_H} {G : Nat → Prop} {c : Tre} {d dd q : Nat} (hn : nd Hb G dd q c) (ha : agr Hb G H) (hy : tyw c) : mu_TI (mu_D (d + 4)) 429 [.inr (.inr (some 169)), .inr (.inr (some q))] H (fun x H1 => x = hmI c ∧ H1 = H) := by
  refine mu_meth (M := mu_m429) rfl rfl ?_
  refine mw_ht (mu_fn_of (show [0, 1].Nodup by decide)) ?_
  obtain ⟨kd1, ⟨is1, nF1, lt1⟩, ⟨st1, sr1, sf1⟩, ⟨n2_1, n3_1, n7_1⟩, nm1, ar1, aq1, aF1, ai1, ⟨al1, am1, ax1⟩, ch1, dp1⟩ := nd.ra (c := c) hn ha
  refine mw_go mu_g429 (k := 2) (f1 := (3, [(0, .inr (.inr (some 169))), (1, .inr (.inr (some q)))], [.inr (.inr (some 1000039)), .inr (.inr (some q))], H)) (C := []) rfl trivial ?_
  refine mw_cIe (fun _ => rfl) (show mu_is H (some q) 18 from is1) (agr.isL (e := d) (j := 39) hn ha (by decide)) ?_
  refine mw_if (P := (if tkd c = 39 then 1 else 0) = 0) (a := 13) (b := 9) (fun _ => rfl) trivial (fun hi2 => ?_) (fun hi2 => ?_)
  · -- 13
    have ek2 : ¬ tkd c = 39 := fun e => by rw [if_pos e] at hi2; exact absurd hi2 (by decide)
    refine mw_go mu_g429 (k := 2) (f1 := (17, [(0, .inr (.inr (some 169))), (1, .inr (.inr (some q)))], [.inr (.inr (some 1000071)), .inr (.inr (some q))], H)) (C := []) rfl trivial ?_
    refine mw_cIe (fun _ => rfl) (show mu_is H (some q) 18 from is1) (agr.isL (e := d) (j := 71) hn ha (by decide)) ?_
    refine mw_if (P := (if tkd c = 71 then 1 else 0) = 0) (a := 47) (b := 23) (fun _ => rfl) trivial (fun hi3 => ?_) (fun hi3 => ?_)
    · -- 47
      have ek3 : ¬ tkd c = 71 := fun e => by rw [if_pos e] at hi3; exact absurd hi3 (by decide)
      refine mw_go mu_g429 (k := 2) (f1 := (51, [(0, .inr (.inr (some 169))), (1, .inr (.inr (some q)))], [.inl (mu_i H q 2)], H)) (C := [mu_is H (some q) 18]) rfl (show mu_is H (some q) 18 from is1) ?_
      refine mw_fr (f' := (51, [(0, .inr (.inr (some 169))), (1, .inr (.inr (some q)))], [.inl (nI (tsn c))], H)) (by first | (rw [n2_1]; done) | (rw [n2_1]; rfl)) ?_
      exact mw_of (fun _ => mu_ret rfl trivial ⟨_, _, rfl, (by rw [hmI, if_neg ek2, if_neg ek3]), rfl⟩)
    · -- 23
      have ek3 : tkd c = 71 := Decidable.byContradiction (fun e => hi3 (if_neg e))
      obtain ⟨t1, t2, t3⟩ := hy.rng ek3
      obtain ⟨y, yr4, yn4⟩ := ch1 1 (show 1 < tsn c by omega)
      have yn4 : nd Hb G (dd - 1) y (tkk c 1) := yn4
      obtain ⟨b1_4, b2_4, b3_4, b4_4⟩ := ar_at ai1 (by decide) (Nat.lt_of_lt_of_le (show 1 < tsn c by omega) al1) (Nat.lt_of_le_of_lt ax1 (by decide))
      have y2_4 : mu_r H ar1 (1 : Int32).toNatClampNeg = some y := yr4
      obtain ⟨kd5, ⟨is5, nF5, lt5⟩, ⟨st5, sr5, sf5⟩, ⟨n2_5, n3_5, n7_5⟩, nm5, ar5, aq5, aF5, ai5, ⟨al5, am5, ax5⟩, ch5, dp5⟩ := nd.ra (c := (tkk c 1)) yn4 ha
      obtain ⟨z, yr6, yn6⟩ := ch1 0 (show 0 < tsn c by omega)
      have yn6 : nd Hb G (dd - 1) z (tkk c 0) := yn6
      obtain ⟨b1_6, b2_6, b3_6, b4_6⟩ := ar_at ai1 (by decide) (Nat.lt_of_lt_of_le (show 0 < tsn c by omega) al1) (Nat.lt_of_le_of_lt ax1 (by decide))
      have y2_6 : mu_r H ar1 (0 : Int32).toNatClampNeg = some z := yr6
      obtain ⟨kd7, ⟨is7, nF7, lt7⟩, ⟨st7, sr7, sf7⟩, ⟨n2_7, n3_7, n7_7⟩, nm7, ar7, aq7, aF7, ai7, ⟨al7, am7, ax7⟩, ch7, dp7⟩ := nd.ra (c := (tkk c 0)) yn6 ha
      refine mw_go mu_g429 (k := 2) (f1 := (27, [(0, .inr (.inr (some 169))), (1, .inr (.inr (some q)))], [.inr (.inr (mu_r H q 1))], H)) (C := [mu_is H (some q) 18]) rfl (show mu_is H (some q) 18 from is1) ?_
      refine mw_fr (f' := (27, [(0, .inr (.inr (some 169))), (1, .inr (.inr (some q)))], [.inr (.inr (some ar1))], H)) (by first | (rw [aq1]; done) | (rw [aq1]; rfl)) ?_
      refine mw_go mu_g429 (k := 2) (f1 := (29, [(0, .inr (.inr (some 169))), (1, .inr (.inr (some q)))], [.inr (.inr (mu_r H ar1 (1 : Int32).toNatClampNeg))], H)) (C := [mu_is H (some ar1) (mu_k H ar1), 103 ≤ mu_k H ar1 ∧ mu_k H ar1 ≤ 110 ∧ mu_k H ar1 ≠ 108, vp_in (1 : Int32) (mu_n H ar1)]) rfl (show (mu_is H (some ar1) (mu_k H ar1)) ∧ (103 ≤ mu_k H ar1 ∧ mu_k H ar1 ≤ 110 ∧ mu_k H ar1 ≠ 108) ∧ (vp_in (1 : Int32) (mu_n H ar1)) from ⟨b1_6, b2_6, b3_4⟩) ?_
      refine mw_fr (f' := (29, [(0, .inr (.inr (some 169))), (1, .inr (.inr (some q)))], [.inr (.inr (some y))], H)) (by first | (rw [y2_4]; done) | (rw [y2_4]; rfl)) ?_
      refine mw_go mu_g429 (k := 1) (f1 := (32, [(0, .inr (.inr (some 169))), (1, .inr (.inr (some q)))], [.inl (mu_i H y 3)], H)) (C := [mu_is H (some y) 18]) rfl (show mu_is H (some y) 18 from is5) ?_
      refine mw_fr (f' := (32, [(0, .inr (.inr (some 169))), (1, .inr (.inr (some q)))], [.inl (tnu (tkk c 1))], H)) (by first | (rw [(n3_5 t3)]; done) | (rw [(n3_5 t3)]; rfl)) ?_
      refine mw_go mu_g429 (k := 2) (f1 := (36, [(0, .inr (.inr (some 169))), (1, .inr (.inr (some q)))], [.inr (.inr (mu_r H q 1)), .inl (tnu (tkk c 1))], H)) (C := [mu_is H (some q) 18]) rfl (show mu_is H (some q) 18 from is1) ?_
      refine mw_fr (f' := (36, [(0, .inr (.inr (some 169))), (1, .inr (.inr (some q)))], [.inr (.inr (some ar1)), .inl (tnu (tkk c 1))], H)) (by first | (rw [aq1]; done) | (rw [aq1]; rfl)) ?_
      refine mw_go mu_g429 (k := 2) (f1 := (38, [(0, .inr (.inr (some 169))), (1, .inr (.inr (some q)))], [.inr (.inr (mu_r H ar1 (0 : Int32).toNatClampNeg)), .inl (tnu (tkk c 1))], H)) (C := [mu_is H (some ar1) (mu_k H ar1), 103 ≤ mu_k H ar1 ∧ mu_k H ar1 ≤ 110 ∧ mu_k H ar1 ≠ 108, vp_in (0 : Int32) (mu_n H ar1)]) rfl (show (mu_is H (some ar1) (mu_k H ar1)) ∧ (103 ≤ mu_k H ar1 ∧ mu_k H ar1 ≤ 110 ∧ mu_k H ar1 ≠ 108) ∧ (vp_in (0 : Int32) (mu_n H ar1)) from ⟨b1_6, b2_6, b3_6⟩) ?_
      refine mw_fr (f' := (38, [(0, .inr (.inr (some 169))), (1, .inr (.inr (some q)))], [.inr (.inr (some z)), .inl (tnu (tkk c 1))], H)) (by first | (rw [y2_6]; done) | (rw [y2_6]; rfl)) ?_
      refine mw_go mu_g429 (k := 1) (f1 := (41, [(0, .inr (.inr (some 169))), (1, .inr (.inr (some q)))], [.inl (mu_i H z 3), .inl (tnu (tkk c 1))], H)) (C := [mu_is H (some z) 18]) rfl (show mu_is H (some z) 18 from is7) ?_
      refine mw_fr (f' := (41, [(0, .inr (.inr (some 169))), (1, .inr (.inr (some q)))], [.inl (tnu (tkk c 0)), .inl (tnu (tkk c 1))], H)) (by first | (rw [(n3_7 t2)]; done) | (rw [(n3_7 t2)]; rfl)) ?_
      refine mw_go mu_g429 (k := 4) (f1 := (51, [(0, .inr (.inr (some 169))), (1, .inr (.inr (some q)))], [.inl (((tnu (tkk c 1)) - (tnu (tkk c 0))) + (1 : Int32))], H)) (C := []) rfl trivial ?_
      exact mw_of (fun _ => mu_ret rfl trivial ⟨_, _, rfl, (by rw [hmI, if_neg ek2, if_pos ek3]), rfl⟩)
  · -- 9
    have ek2 : tkd c = 39 := Decidable.byContradiction (fun e => hi2 (if_neg e))
    refine mw_go mu_g429 (k := 2) (f1 := (51, [(0, .inr (.inr (some 169))), (1, .inr (.inr (some q)))], [.inl (2 : Int32)], H)) (C := []) rfl trivial ?_
    exact mw_of (fun _ => mu_ret rfl trivial ⟨_, _, rfl, (by rw [hmI, if_pos ek2]), rfl⟩)
/-- the bits that n values take: the least b with n <= 2^b -/
def bzl (n : Nat) : Nat → Nat → Nat
  | 0, b => b
  | m + 1, b => if 2 ^ b < n then bzl n m (b + 1) else b
def clg (n : Nat) : Nat := bzl n 27 0
theorem bzl_le {n : Nat} : ∀ m b, bzl n m b ≤ b + m
  | 0, _ => Nat.le_refl _
  | m + 1, b => by
    rw [bzl]
    split
    · have := bzl_le (n := n) m (b + 1); omega
    · omega
theorem bzl_ge {n : Nat} : ∀ m b, n ≤ 2 ^ (b + m) → n ≤ 2 ^ bzl n m b
  | 0, b, h => h
  | m + 1, b, h => by
    rw [bzl]
    split
    · exact bzl_ge m (b + 1) (by rw [show b + 1 + m = b + (m + 1) by omega]; exact h)
    · omega
theorem clg_ge {n : Nat} (h : n ≤ 2 ^ 21) : n ≤ 2 ^ clg n := bzl_ge 27 0 (Nat.le_trans h (by decide))
/-- the bits of the first v VARIABLES -/
def bsm (D : MD) : Nat → Nat
  | 0 => 0
  | v + 1 => bsm D v + clg (hmn (typ D v))
theorem bsm_le {D : MD} : ∀ v, bsm D v ≤ 27 * v
  | 0 => Nat.le_refl _
  | v + 1 => by
    have h := bsm_le (D := D) v
    have h2 : clg (hmn (typ D v)) ≤ 27 := Nat.le_trans (bzl_le 27 0) (by decide)
    show bsm D v + clg (hmn (typ D v)) ≤ 27 * (v + 1)
    omega
theorem bsm_mono {D : MD} {v : Nat} : ∀ m, bsm D v ≤ bsm D (v + m)
  | 0 => Nat.le_refl _
  | m + 1 => Nat.le_trans (bsm_mono m) (Nat.le_add_right _ _)
theorem shl_b : ∀ b, b < 28 → (1 : Int32) <<< ((nI b) &&& (31 : Int32)) = nI (2 ^ b) := by decide
section AgrW
variable {Hb H : mu_H} {G : Nat → Prop} {q j : Nat} {x : Int32}
/-- what may be written into cells that stand still -/
theorem agr.wr (h : agr Hb G H) (hq : G q) (hj : (mu_k Hb q = 16 ∧ (j = 6 ∨ j = 17)) ∨ (mu_k Hb q = 18 ∧ j = 3 ∧ mu_i Hb q 7 ≠ 1)) : agr Hb G (mu_si H q j x) := by
  obtain ⟨h1, h2, h3, h4⟩ := h
  refine ⟨h1, fun p hp => (h2 p hp).tr (mu_same_si (fun e => ?_)), fun p hp => ?_, h4⟩
  · subst e
    rcases hp with z | z
    · have := (h4 p hq).2.2; omega
    · exact hj.elim (fun y => z.2.1 y.1) (fun y => z.2.2 y.1)
  · obtain ⟨k1, k2, k3⟩ := h3 p hp
    refine ⟨k1, k2, fun i hi hi2 => ?_⟩
    rw [mu_i_si, if_neg (fun z => ?_)]
    · exact k3 i hi hi2
    · obtain ⟨z1, z2⟩ := z
      subst z1
      subst z2
      exact hj.elim hi hi2
end AgrW
theorem nd_nam {Hb : mu_H} {G : Nat → Prop} {d d' y : Nat} {c c' : Tre} (h : nd Hb G d y c) (h' : nd Hb G d' y c') (n1 : 0 < (tns c).length) (n2 : 0 < (tns c').length) : nam c = nam c' := by
  obtain ⟨_, _, _, _, a1, _⟩ := h.rd
  obtain ⟨_, _, _, _, a2, _⟩ := h'.rd
  obtain ⟨b, b1, _, _, _, _, b6⟩ := a1.rd n1
  obtain ⟨b', b1', _, _, _, _, b6'⟩ := a2.rd n2
  rw [b1] at b1'
  cases b1'
  obtain ⟨s, s1, s2⟩ := b6 0 n1
  obtain ⟨s', s1', s2'⟩ := b6' 0 n2
  rw [s1] at s1'
  cases s1'
  exact s2.1.one s2'.1
