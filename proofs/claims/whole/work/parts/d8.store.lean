/-! THE STORE OF SETS: what always holds of it -/
section Store0
variable {w x : Int64}
theorem or_mid (h0 : tnz w / 67108864 % 1048576 = 0) (hx : tnz x < 1048576) : tnz (w ||| (x <<< ((26 : Int32).toInt64 &&& 63))) / 67108864 % 1048576 = tnz x := by
  have e : tnz (x <<< ((26 : Int32).toInt64 &&& 63)) = tnz x * 67108864 := shl_val (x := x) (k := 26) (by decide) (by omega)
  unfold tnz at e h0 hx ⊢
  rw [Int64.toBitVec_or, BitVec.toNat_or, e, show (67108864 : Nat) = 2 ^ 26 by decide, show (1048576 : Nat) = 2 ^ 20 by decide, ← Nat.shiftRight_eq_div_pow, Nat.shiftRight_or_distrib, Nat.or_mod_two_pow, Nat.shiftRight_eq_div_pow, Nat.shiftRight_eq_div_pow, Nat.mul_div_cancel _ (Nat.two_pow_pos _)]
  rw [show w.toBitVec.toNat / 2 ^ 26 % 2 ^ 20 = 0 from h0, Nat.zero_or]
  exact Nat.mod_eq_of_lt hx
theorem and_low {M : Int64} (hM : tnz M % 67108864 = 67108863) : tnz (x &&& M) % 67108864 = tnz x % 67108864 := by
  unfold tnz at hM ⊢
  rw [Int64.toBitVec_and, BitVec.toNat_and, show (67108864 : Nat) = 2 ^ 26 by decide, Nat.and_mod_two_pow, show M.toBitVec.toNat % 2 ^ 26 = 2 ^ 26 - 1 from hM, Nat.and_two_pow_sub_one_eq_mod, Nat.mod_mod]
theorem and_chain : tnz (x &&& (70368677068800 : Int64)) / 67108864 = tnz x / 67108864 % 1048576 := by
  have hM : (70368677068800 : Int64).toBitVec.toNat = 1048575 * 2 ^ 26 := by decide
  unfold tnz
  rw [Int64.toBitVec_and, BitVec.toNat_and, hM, show (67108864 : Nat) = 2 ^ 26 by decide, ← Nat.shiftRight_eq_div_pow, Nat.shiftRight_and_distrib, Nat.shiftRight_eq_div_pow, Nat.shiftRight_eq_div_pow, Nat.mul_div_cancel _ (Nat.two_pow_pos _), show (1048575 : Nat) = 2 ^ 20 - 1 by decide, Nat.and_two_pow_sub_one_eq_mod]
theorem l2i_sm (h : tnz x < 2147483648) : x.toInt32 = nI (tnz x) := by
  rw [← Int32.toBitVec_inj]
  apply BitVec.eq_of_toNat_eq
  rw [show x.toInt32.toBitVec = x.toBitVec.setWidth 32 from by rw [Int64.toBitVec_toInt32, BitVec.signExtend_eq_setWidth_of_le _ (by decide)]]
  show _ = (BitVec.ofNat 32 (tnz x)).toNat
  rw [BitVec.toNat_setWidth, BitVec.toNat_ofNat]
  rfl
/-- the next set of the same head, plus one -/
def cnx (fc : Nat → Int64) (st : Nat) : Nat := tnz (fc (st % 8192)) / 67108864 % 1048576
theorem ch_next : (us (x &&& (70368677068800 : Int64)) 26).toInt32 = nI (tnz x / 67108864 % 1048576) := by
  have e : tnz (us (x &&& (70368677068800 : Int64)) 26) = tnz x / 67108864 % 1048576 := (us_val (x := x &&& (70368677068800 : Int64)) (k := 26) (by decide)).trans and_chain
  rw [l2i_sm (by rw [e]; exact Nat.lt_trans (Nat.mod_lt _ (by decide)) (by decide)), e]
end Store0
section Store
variable {U V X : Ud} {N us ln hd n fr fm id st : Nat} {fc gc : Nat → Int64} {S : Nat → Nat → Bool} {z : Nat → Nat} {p : Nat → Bool} {ls : Nat → Nat} {T T' : Nat → Bool} {F : Uf}
def SOK (U : Ud) (N us : Nat) (S : Nat → Nat → Bool) (z : Nat → Nat) (p : Nat → Bool) : Prop :=
  (U.2.1 113 1 = nI us ∧ us ≤ 1507328 ∧ U.2.1 113 2 = nI N ∧ N ≤ 524288) ∧ (N ≤ (U.2.2.1 113 3).1 ∧ 1 ≤ (U.2.2.1 113 3).1 ∧ (U.2.2.1 113 3).1 ≤ 1048576) ∧
  (∀ c, c < 184 → U.2.2.2.2.2 114 c = none ∨ ∃ f, U.2.2.2.2.2 114 c = some (8192, f)) ∧
  (∃ kk, kk ≤ 12 ∧ U.2.1 113 5 = nI (2 ^ kk - 1) ∧ ∀ k, k < 2 ^ kk → (U.2.2.1 113 4).2 k = -1 ∨ ∃ id, id < N ∧ p id = true ∧ (U.2.2.1 113 4).2 k = nI id) ∧
  (∀ id, id < N → p id = true → ∃ st fc, sat U id st fc ∧ stz fc st (S id) ∧ hsz fc st = z id ∧ st + hln fc st + 1 ≤ us ∧ cnx fc st ≤ id ∧ ∀ c, cnx fc st = c + 1 → p c = true) ∧
  (∀ id, id < N → p id = false → sab U id (z id)) ∧
  ∀ id, id < N → ∃ ls : Nat → Nat, (∀ i j, i < j → j < z id → ls i < ls j) ∧ (∀ i, i < z id → ls i < 16384) ∧ S id = lmz ls (z id)
theorem SOK.eq (h : SOK U N us S z p) (e1 : V.2.1 113 1 = U.2.1 113 1) (e2 : V.2.1 113 2 = U.2.1 113 2) (e5 : V.2.1 113 5 = U.2.1 113 5) (e3 : V.2.2.1 113 3 = U.2.2.1 113 3) (e4 : V.2.2.1 113 4 = U.2.2.1 113 4) (ep : V.2.2.2.2.2 114 = U.2.2.2.2.2 114) : SOK V N us S z p := by
  obtain ⟨h1, h2, h3, h4, h5, h6, h7⟩ := h
  refine ⟨by rw [e1, e2]; exact h1, by rw [e3]; exact h2, by rw [ep]; exact h3, by rw [e5, e4]; exact h4, fun id a b => ?_, fun id a b => ?_, h7⟩
  · obtain ⟨st, fc, q1, q2⟩ := h5 id a b
    exact ⟨st, fc, by unfold sat at q1 ⊢; rw [e3, ep]; exact q1, q2⟩
  · have q := h6 id a b
    unfold sab at q ⊢
    rw [e3]
    exact q
theorem SOK.q (h : SOK U N us S z p) (hq : uq F U V) (i1 : in2 F.i 113 1 = false) (i2 : in2 F.i 113 2 = false) (i5 : in2 F.i 113 5 = false) (a3 : in2 F.a 113 3 = false) (a4 : in2 F.a 113 4 = false) (hp : F.p = false) : SOK V N us S z p := h.eq (hq.i 113 1 i1) (hq.i 113 2 i2) (hq.i 113 5 i5) (hq.a 113 3 a3) (hq.a 113 4 a4) (congrFun (hq.2.2.2.2.2 hp) 114)
theorem stz_uniq (h : stz fc st T) (h' : stz fc st T') : T = T' := by
  funext x
  rw [Bool.eq_iff_iff]
  obtain ⟨a, _, b0, b1, b2⟩ := h
  obtain ⟨_, _, c0, c1, c2⟩ := h'
  have : hfm fc st = 0 ∨ hfm fc st = 1 ∨ hfm fc st = 2 := by omega
  rcases this with e | e | e
  · rw [(b0 e).2.2.2 x, (c0 e).2.2.2 x]
  · rw [(b1 e).2.2 x, (c1 e).2.2 x]
  · rw [b2 e x, c2 e x]
/-- what stands in work: a set without a chain -/
def WRK (L : Nat → Int64) (ln fm n : Nat) (ls : Nat → Nat) : Prop := tnz (L 0) % 67108864 = n + fm * 32768 + ln * 131072 ∧ tnz (L 0) / 67108864 % 1048576 = 0 ∧ (fm < 4 ∧ ln ≤ 256 ∧ n ≤ 16384) ∧ stz L 0 (lmz ls n)
theorem WRK.head (h : WRK gc ln fm n ls) (e : tnz (fc (st % 8192)) % 67108864 = tnz (gc 0) % 67108864) : hsz fc st = n ∧ hfm fc st = fm ∧ hln fc st = ln := by
  obtain ⟨h1, _, ⟨a, b, c⟩, _⟩ := h
  have k1 := hd_same (t := tnz (fc (st % 8192))) (u := n + fm * 32768 + ln * 131072) (by rw [e, h1]; omega)
  have k2 := hd_fields (n := n) (f := fm) (l := ln) (by omega) a (by omega)
  unfold hsz hfm hln
  exact ⟨k1.1.trans k2.1, k1.2.1.trans k2.2.1, k1.2.2.trans k2.2.2⟩
theorem WRK.carry (h : WRK gc ln fm n ls) (e : tnz (fc (st % 8192)) % 67108864 = tnz (gc 0) % 67108864) (hw : ∀ k, 1 ≤ k → k ≤ ln → fc (st % 8192 + k) = gc k) (hb : st % 8192 + ln < 8192) : stz fc st (lmz ls n) := by
  obtain ⟨a1, a2, a3⟩ := h.head e
  obtain ⟨b1, b2, b3⟩ := h.head (fc := gc) (st := 0) rfl
  refine stz_carry h.2.2.2 (a1.trans b1.symm) (a2.trans b2.symm) (a3.trans b3.symm) (fun k h1 h2 => ?_) (by rw [b3]; exact hb)
  rw [b3] at h2
  rw [show 0 % 8192 + k = k by omega]
  exact hw k h1 h2
theorem frm_b (h : frm us ln fr) (hl : ln ≤ 256) : us ≤ fr ∧ fr % 8192 + ln + 1 ≤ 8192 ∧ fr ≤ us + 256 ∧ fr + 256 * (us / 8192) ≤ us + 256 * (fr / 8192) := by
  unfold frm at h
  omega
theorem hd_chain {v : Int32} (hv : v = -1 ∨ ∃ id, id < N ∧ p id = true ∧ v = nI id) (hN : N ≤ 524288) : ∃ c, tnz (v.toInt64 + 1) = c ∧ c < 1048576 ∧ c ≤ N ∧ ∀ q, c = q + 1 → p q = true := by
  rcases hv with h | ⟨id, h1, h2, h3⟩
  · refine ⟨0, by rw [h]; decide, by decide, by omega, fun q hq => absurd hq (by omega)⟩
  · refine ⟨id + 1, ?_, by omega, by omega, fun q hq => by rw [show q = id by omega]; exact h2⟩
    have e := i2l_val (n := id) (by omega)
    rw [h3, ladd_val (by rw [e, show tnz 1 = 1 from by decide]; omega), e, show tnz 1 = 1 from by decide]
/-- a set is kept -/
theorem SOK.keep (h : SOK U N us S z p) (hk : KPs U V N fr ln hd) (hfr : frm us ln fr) (hc : fr / 8192 < 184) (hW : WRK (U.2.2.2.2.1 117) ln fm n ls) (hN : N < 524288) (hhd : ∃ kk, kk ≤ 12 ∧ U.2.1 113 5 = nI (2 ^ kk - 1) ∧ (∀ k, k < 2 ^ kk → (U.2.2.1 113 4).2 k = -1 ∨ ∃ id, id < N ∧ p id = true ∧ (U.2.2.1 113 4).2 k = nI id) ∧ hd < 2 ^ kk) (hr : ∀ i j, i < j → j < n → ls i < ls j) (hb : ∀ i, i < n → ls i < 16384) : SOK V (N + 1) (fr + ln + 1) (fun j => if j = N then lmz ls n else S j) (fun j => if j = N then n else z j) (fun j => if j = N then true else p j) := by
  obtain ⟨h1, h2, h3, -, h5, h6, h7⟩ := h
  obtain ⟨kk, hkk, hm5, hh4, hdk⟩ := hhd
  obtain ⟨q, qi, qL, qj, qN, q4, ⟨g, gc0, gold, gw, gws⟩, qo⟩ := hk
  have hl8 := hW.2.2.1.2.1
  obtain ⟨f1, f2, f3, f4⟩ := frm_b hfr hl8
  have p1 : ∀ j, j < N → (fun j => if j = N then true else p j) j = p j := fun j hj => if_neg (by omega)
  have hlen : (V.2.2.1 113 3).1 < 2147483648 := by omega
  refine ⟨⟨qi.1, by omega, qi.2, by omega⟩, ⟨qL.1, by omega, by omega⟩, fun c hc' => ?_, ⟨kk, hkk, (q.i 113 5 rfl).trans hm5, fun k hk => ?_⟩, fun id hid hp => ?_, fun id hid hp => ?_, fun id hid => ?_⟩
  · by_cases e : c = fr / 8192
    · rw [e]; exact Or.inr ⟨g, gc0⟩
    · rw [qo 114 c (fun y => e y.2)]; exact h3 c hc'
  · rw [q4 k]
    by_cases e : k = hd
    · rw [if_pos e]
      exact Or.inr ⟨N, by omega, if_pos rfl, rfl⟩
    · rw [if_neg e]
      rcases hh4 k hk with y | ⟨id, y1, y2, y3⟩
      · exact Or.inl y
      · exact Or.inr ⟨id, by omega, (p1 id y1).trans y2, y3⟩
  · by_cases e : id = N
    · have hX := hd_chain (hh4 hd hdk) (by omega : N ≤ 524288)
      obtain ⟨c, c1, c2, c3, c4⟩ := hX
      have elow : tnz (g (fr % 8192)) % 67108864 = tnz (U.2.2.2.2.1 117 0) % 67108864 := by
        rw [gw]
        exact or_low (s := 26) (by decide)
      have ech : cnx g fr = c := by
        unfold cnx
        rw [gw, or_mid hW.2.1 (by rw [c1]; exact c2), c1]
      obtain ⟨k1, k2, k3⟩ := hW.head elow
      refine ⟨fr, g, ⟨⟨by omega, hlen⟩, by rw [e]; exact qN, by omega, gc0⟩, ?_, ?_, by rw [k3]; omega, by rw [ech]; omega, fun c' hc' => ?_⟩
      · show stz g fr (if id = N then lmz ls n else S id)
        rw [if_pos e]
        exact hW.carry elow (fun k a b => gws k a b) (by omega)
      · show hsz g fr = if id = N then n else z id
        rw [if_pos e]
        exact k1
      · rw [ech] at hc'
        have := c4 c' hc'
        by_cases e2 : c' = N
        · exact if_pos e2
        · exact (if_neg e2).trans this
    · have hp' : p id = true := (p1 id (by omega)).symm.trans hp
      obtain ⟨st, fc, ⟨s1, s2, s3, s4⟩, t1, t2, t3, t4, t5⟩ := h5 id (by omega) hp'
      have hS : (fun j => if j = N then lmz ls n else S j) id = S id := if_neg e
      have hz : (fun j => if j = N then n else z j) id = z id := if_neg e
      have hln9 := t1.2.1.1
      by_cases ec : st / 8192 = fr / 8192
      · rw [ec] at s4
        have hg : ∀ s, s ≤ st % 8192 + hln fc st → g s = fc s := fun s hs => gold fc s4 s (by omega)
        have e0 : g (st % 8192) = fc (st % 8192) := hg _ (by omega)
        have x1 : hsz g st = hsz fc st := by unfold hsz; rw [e0]
        have x2 : hfm g st = hfm fc st := by unfold hfm; rw [e0]
        have x3 : hln g st = hln fc st := by unfold hln; rw [e0]
        have x4 : cnx g st = cnx fc st := by unfold cnx; rw [e0]
        refine ⟨st, g, ⟨⟨by omega, hlen⟩, by rw [qj id (by omega)]; exact s2, s3, by rw [ec]; exact gc0⟩, ?_, by rw [hz, x1]; exact t2, by rw [x3]; omega, by rw [x4]; exact t4, fun c' hc' => ?_⟩
        · rw [hS]
          exact stz_carry t1 x1 x2 x3 (fun k a b => hg _ (by omega)) hln9
        · rw [x4] at hc'
          have := t5 c' hc'
          by_cases e2 : c' = N
          · exact if_pos e2
          · exact (if_neg e2).trans this
      · refine ⟨st, fc, ⟨⟨by omega, hlen⟩, by rw [qj id (by omega)]; exact s2, s3, by rw [qo 114 _ (fun y => ec y.2)]; exact s4⟩, by rw [hS]; exact t1, by rw [hz]; exact t2, by omega, t4, fun c' hc' => ?_⟩
        have := t5 c' hc'
        by_cases e2 : c' = N
        · exact if_pos e2
        · exact (if_neg e2).trans this
  · have hne : ¬ id = N := fun e => by
      have y : (if id = N then true else p id) = false := hp
      rw [if_pos e] at y
      cases y
    have hp' : p id = false := (p1 id (by omega)).symm.trans hp
    obtain ⟨s1, s2, s3⟩ := h6 id (by omega) hp'
    have hz : (fun j => if j = N then n else z j) id = z id := if_neg hne
    rw [hz]
    exact ⟨⟨by omega, hlen⟩, by rw [qj id (by omega)]; exact s2, s3⟩
  · by_cases e : id = N
    · refine ⟨ls, ?_⟩
      show (∀ i j, i < j → j < (if id = N then n else z id) → ls i < ls j) ∧ (∀ i, i < (if id = N then n else z id) → ls i < 16384) ∧ (if id = N then lmz ls n else S id) = lmz ls (if id = N then n else z id)
      rw [if_pos e, if_pos e]
      exact ⟨hr, hb, rfl⟩
    · obtain ⟨l2, y⟩ := h7 id (by omega)
      refine ⟨l2, ?_⟩
      show (∀ i j, i < j → j < (if id = N then n else z id) → l2 i < l2 j) ∧ (∀ i, i < (if id = N then n else z id) → l2 i < 16384) ∧ (if id = N then lmz ls n else S id) = lmz l2 (if id = N then n else z id)
      rw [if_neg e, if_neg e]
      exact y
/-- or finds no room -/
theorem SOK.none (h : SOK U N us S z p) (hk : KPn U V N n) (hn : n ≤ 16384) (hN : N < 524288) (hr : ∀ i j, i < j → j < n → ls i < ls j) (hb : ∀ i, i < n → ls i < 16384) : SOK V (N + 1) us (fun j => if j = N then lmz ls n else S j) (fun j => if j = N then n else z j) (fun j => if j = N then false else p j) := by
  obtain ⟨h1, h2, h3, ⟨kk, hkk, hm5, hh4⟩, h5, h6, h7⟩ := h
  obtain ⟨q, qi, qL, qj, qN, q4, qo⟩ := hk
  have p1 : ∀ j, j < N → (fun j => if j = N then false else p j) j = p j := fun j hj => if_neg (by omega)
  have hlen : (V.2.2.1 113 3).1 < 2147483648 := by omega
  refine ⟨⟨qi.1.trans h1.1, h1.2.1, qi.2, by omega⟩, ⟨qL.1, by omega, by omega⟩, fun c hc' => by rw [qo]; exact h3 c hc', ⟨kk, hkk, (q.i 113 5 rfl).trans hm5, fun k hk => ?_⟩, fun id hid hp => ?_, fun id hid hp => ?_, fun id hid => ?_⟩
  · rw [q4]
    rcases hh4 k hk with y | ⟨id, y1, y2, y3⟩
    · exact Or.inl y
    · exact Or.inr ⟨id, by omega, (p1 id y1).trans y2, y3⟩
  · have e : ¬ id = N := fun e => by
      have y : (if id = N then false else p id) = true := hp
      rw [if_pos e] at y
      cases y
    have hp' : p id = true := (p1 id (by omega)).symm.trans hp
    obtain ⟨st, fc, ⟨s1, s2, s3, s4⟩, t1, t2, t3, t4, t5⟩ := h5 id (by omega) hp'
    have hS : (fun j => if j = N then lmz ls n else S j) id = S id := if_neg e
    have hz : (fun j => if j = N then n else z j) id = z id := if_neg e
    refine ⟨st, fc, ⟨⟨by omega, hlen⟩, by rw [qj id (by omega)]; exact s2, s3, by rw [qo]; exact s4⟩, by rw [hS]; exact t1, by rw [hz]; exact t2, t3, t4, fun c' hc' => ?_⟩
    exact (p1 c' (by omega)).trans (t5 c' hc')
  · by_cases e : id = N
    · show sab V id (if id = N then n else z id)
      rw [if_pos e]
      exact ⟨⟨by omega, hlen⟩, by rw [e]; exact qN, by omega⟩
    · have hp' : p id = false := (p1 id (by omega)).symm.trans hp
      obtain ⟨s1, s2, s3⟩ := h6 id (by omega) hp'
      have hz : (fun j => if j = N then n else z j) id = z id := if_neg e
      rw [hz]
      exact ⟨⟨by omega, hlen⟩, by rw [qj id (by omega)]; exact s2, s3⟩
  · by_cases e : id = N
    · refine ⟨ls, ?_⟩
      show (∀ i j, i < j → j < (if id = N then n else z id) → ls i < ls j) ∧ (∀ i, i < (if id = N then n else z id) → ls i < 16384) ∧ (if id = N then lmz ls n else S id) = lmz ls (if id = N then n else z id)
      rw [if_pos e, if_pos e]
      exact ⟨hr, hb, rfl⟩
    · obtain ⟨l2, y⟩ := h7 id (by omega)
      refine ⟨l2, ?_⟩
      show (∀ i j, i < j → j < (if id = N then n else z id) → l2 i < l2 j) ∧ (∀ i, i < (if id = N then n else z id) → l2 i < 16384) ∧ (if id = N then lmz ls n else S id) = lmz l2 (if id = N then n else z id)
      rw [if_neg e, if_neg e]
      exact y
/-- what add leaves -/
def ADD (U V : Ud) (N us : Nat) (S : Nat → Nat → Bool) (z : Nat → Nat) (p : Nat → Bool) (ls : Nat → Nat) (n id : Nat) : Prop := uq F254 U V ∧ (∀ a c, ¬ a = 114 → V.2.2.2.2.2 a c = U.2.2.2.2.2 a c) ∧ ∃ N' us' S' z' p' ln, SOK V N' us' S' z' p' ∧ id < N' ∧ (N ≤ N' ∧ N' ≤ N + 1 ∧ (N' = N ∨ id = N)) ∧ (∀ j, j < N → S' j = S j ∧ z' j = z j ∧ p' j = p j) ∧ (S' id = lmz ls n ∧ z' id = n) ∧ (us ≤ us' ∧ us' + 256 * (us / 8192) ≤ us + 256 * (us' / 8192) + (ln + 1)) ∧ (ln ≤ (n + 3) / 4 ∧ (1 ≤ n → ln ≤ ls (n - 1) / 64 + 1)) ∧ (us + 256 < 1507328 → p' id = true ∧ N' + us ≤ N + us')
theorem ADD.old (hq : uq F254 U X) (ho : ∀ a c, ¬ a = 114 → X.2.2.2.2.2 a c = U.2.2.2.2.2 a c) (hS : SOK X N us S z p) (hid : id < N) (hp : p id = true) (hs : sat X id st fc) (ht : stz fc st (S id)) (hz : hsz fc st = z id) (hW : WRK (X.2.2.2.2.1 117) ln fm n ls) (e : tnz (fc (st % 8192)) % 67108864 = tnz (X.2.2.2.2.1 117 0) % 67108864) (hw : ∀ k, 1 ≤ k → k ≤ ln → fc (st % 8192 + k) = X.2.2.2.2.1 117 k) (hl : ln ≤ (n + 3) / 4 ∧ (1 ≤ n → ln ≤ ls (n - 1) / 64 + 1)) : ADD U X N us S z p ls n id := by
  obtain ⟨k1, k2, k3⟩ := hW.head e
  have hb := ht.2.1.1
  rw [k3] at hb
  exact ⟨hq, ho, N, us, S, z, p, ln, hS, hid, ⟨Nat.le_refl _, by omega, Or.inl rfl⟩, fun _ _ => ⟨rfl, rfl, rfl⟩, ⟨stz_uniq ht (hW.carry e hw hb), hz.symm.trans k1⟩, ⟨Nat.le_refl _, by omega⟩, hl, fun _ => ⟨hp, Nat.le_refl _⟩⟩
theorem ADD.new (hq : uq F254 U X) (ho : ∀ a c, ¬ a = 114 → X.2.2.2.2.2 a c = U.2.2.2.2.2 a c) (hS : SOK X N us S z p) (hX : uq F254 X V) (hfr : frm us ln fr) (hk : (fr / 8192 < 184 ∧ KPs X V N fr ln hd) ∨ (184 ≤ fr / 8192 ∧ KPn X V N n)) (hW : WRK (X.2.2.2.2.1 117) ln fm n ls) (hN : N < 524288) (hhd : ∃ kk, kk ≤ 12 ∧ X.2.1 113 5 = nI (2 ^ kk - 1) ∧ (∀ k, k < 2 ^ kk → (X.2.2.1 113 4).2 k = -1 ∨ ∃ id, id < N ∧ p id = true ∧ (X.2.2.1 113 4).2 k = nI id) ∧ hd < 2 ^ kk) (hr : ∀ i j, i < j → j < n → ls i < ls j) (hb : ∀ i, i < n → ls i < 16384) (hl : ln ≤ (n + 3) / 4 ∧ (1 ≤ n → ln ≤ ls (n - 1) / 64 + 1)) : ADD U V N us S z p ls n N := by
  obtain ⟨f1, f2, f3, f4⟩ := frm_b hfr hW.2.2.1.2.1
  have hl8 := hW.2.2.1.2.1
  rcases hk with ⟨hc, hk⟩ | ⟨hc, hk⟩
  · refine ⟨hq.trans hX, fun a c h => (hk.2.2.2.2.2.2.2 a c (fun y => h y.1)).trans (ho a c h), N + 1, fr + ln + 1, _, _, _, ln, hS.keep hk hfr hc hW hN hhd hr hb, by omega, ⟨by omega, by omega, Or.inr rfl⟩, fun j hj => ⟨if_neg (by omega), if_neg (by omega), if_neg (by omega)⟩, ⟨if_pos rfl, if_pos rfl⟩, ⟨by omega, by omega⟩, hl, fun _ => ⟨if_pos rfl, by omega⟩⟩
  · refine ⟨hq.trans hX, fun a c h => (congrFun (congrFun hk.2.2.2.2.2.2 a) c).trans (ho a c h), N + 1, us, _, _, _, ln, hS.none hk hW.2.2.1.2.2 hN hr hb, by omega, ⟨by omega, by omega, Or.inr rfl⟩, fun j hj => ⟨if_neg (by omega), if_neg (by omega), if_neg (by omega)⟩, ⟨if_pos rfl, if_pos rfl⟩, ⟨Nat.le_refl _, by omega⟩, hl, fun y => absurd y (by omega)⟩
end Store
