/-! The reference: highChoice -/
/-- PathProverModel.highChoice(LPathProverModel$Node;LPathProverModel$Instance;)I -/
abbrev mu_m474 : ev_M := (5, (some .int), [], ev_b474)
theorem mu_g474 : mu_good mu_m474 := mu_goodk ev_k474
theorem rI_int {a : Nat} (h : a < 2147483648) : (nI a).toInt = (a : Int) := Int32.toInt_ofNat_of_lt h
theorem rI_mul {a b : Nat} : nI a * nI b = nI (a * b) := (Int32.ofNat_mul a b).symm
theorem rI_sb {a b : Nat} (h : b ≤ a) : nI a - nI b = nI (a - b) := by
  have := nI_add (a - b) b
  rw [Nat.sub_add_cancel h] at this
  rw [← this, Int32.add_sub_cancel]
theorem rI_div {a b : Nat} (ha : a < 2147483648) (hb : b < 2147483648) : nI a / nI b = nI (a / b) := by
  refine Int32.toInt_inj.mp ?_
  have hd : a / b < 2147483648 := Nat.lt_of_le_of_lt (Nat.div_le_self a b) ha
  have e : ((a : Int).tdiv (b : Int)) = ((a / b : Nat) : Int) := (Int.ofNat_tdiv a b).symm
  rw [Int32.toInt_div, rI_int ha, rI_int hb, rI_int hd, e, Int.bmod_eq_of_le]
  · show -(((2 ^ 32 : Nat) : Int) / 2 : Int) ≤ ((a / b : Nat) : Int)
    have : (0 : Int) ≤ ((a / b : Nat) : Int) := Int.natCast_nonneg _
    have h2 : (((2 ^ 32 : Nat) : Int) / 2 : Int) = 2147483648 := by decide
    omega
  · show ((a / b : Nat) : Int) < (((2 ^ 32 : Nat) : Int) + 1) / 2
    have h2 : ((((2 ^ 32 : Nat) : Int) + 1) / 2 : Int) = 2147483648 := by decide
    omega
theorem rI_mod {a b : Nat} (ha : a < 2147483648) (hb : b < 2147483648) : nI a - nI a / nI b * nI b = nI (a % b) := by
  rw [rI_div ha hb, rI_mul, rI_sb (Nat.div_mul_le_self a b)]
  have h1 := Nat.div_add_mod a b
  rw [Nat.mul_comm] at h1
  exact congrArg nI (by omega)
theorem rI_odd {k : Nat} (h : k < 2147483648) : (nI k - nI k / (2 : Int32) * (2 : Int32) = 1) ↔ k % 2 = 1 := by
  have e : nI k - nI k / (2 : Int32) * (2 : Int32) = nI (k % 2) := rI_mod h (b := 2) (by decide)
  rw [e]
  have : k % 2 = 0 ∨ k % 2 = 1 := by omega
  rcases this with e2 | e2 <;> rw [e2]
  · exact ⟨fun z => absurd z (by decide), fun z => absurd z (by decide)⟩
  · exact ⟨fun _ => rfl, fun _ => rfl⟩
def hcl (f : Nat → Int32) : Nat → Nat → Int32 → Int32
  | 0, _, h => h
  | m + 1, k, h => hcl f m (k + 1) (mu_max h (f k))
/-- the height of a choice -/
def hgc (D : MD) (j : Nat) (hs : Nat → Int32) : Nat → Tre → Int32
  | 0, _ => 0
  | l + 1, c => if tkd c = 10 ∨ tkd c = 52 then 1 + hcl (fun k => if tkd c = 52 ∧ k % 2 = 1 then hgc D j hs l (tkk c k) else hgt D j hs l (tkk c k)) (tsn c) 0 0 else hgt D j hs (l + 1) c
theorem chw.pt {l k : Nat} {c : Tre} (h : chw (l + 1) c) (hk : k < tsn c) (hc : tkd c = 10 ∨ tkd c = 52) : (¬ (tkd c = 52 ∧ k % 2 = 1) → exw l (tkk c k)) ∧ (tkd c = 52 ∧ k % 2 = 1 → chw l (tkk c k)) := by
  rcases h with ⟨h1, h2, h3⟩ | ⟨h1, h2, h3, h4, h5⟩ | h
  · exact ⟨fun _ => h3 k hk, fun z => by rw [h1] at z; exact absurd z.1 (by decide)⟩
  · exact ⟨fun z => h4 k hk (by have : ¬ k % 2 = 1 := fun y => z ⟨h1, y⟩; omega), fun z => h5 k hk z.2⟩
  · have q := (h.lk hk).1
    have e : lkp c k = tkk c k := if_neg (fun z => by rw [z.1] at hc; exact absurd hc (by decide))
    rw [e] at q
    exact ⟨fun _ => q, fun _ => q.ch⟩
theorem chw.no {l : Nat} {c : Tre} (h : chw (l + 1) c) (hc : ¬ (tkd c = 10 ∨ tkd c = 52)) : exw (l + 1) c := by
  rcases h with h | h | h
  · exact absurd (Or.inl h.1) hc
  · exact absurd (Or.inr h.1) hc
  · exact h
theorem mu_DcI {n m j : Nat} {as : List mu_V} {H : mu_H} {Q : Int32 → mu_H → Prop} (e : n = m) (h : mu_TI (mu_D n) j as H Q) : mu_TI (mu_D m) j as H Q := by rw [← e]; exact h
theorem rp_hgC0 {Hb H0 : mu_H} {D : MD} {hp : Nat} {hs : Nat → Int32} {j l d dd q : Nat} {c : Tre} {R : Int32} (hb : mdb D) (hh : hts H0 D hp hs) (hj : j < D.n) (hn : nd Hb D.G dd q c) (hx : chw (l + 1) c) (hc : tkd c = 10 ∨ tkd c = 52) (hkk : nmk D j c) (ih : ∀ q c H dd, rms Hb D H → hts H D hp hs → nd Hb D.G dd q c → chw l c → nmk D j c → mu_TI (mu_D (d + l + 8)) 474 [.inr (.inr (some 169)), .inr (.inr (some q)), .inr (.inr (some (D.ip j)))] H (fun x H1 => x = hgc D j hs l c ∧ ffr 0 H H1)) : ∀ m_ k h H, k + m_ = tsn c → rms Hb D H → ffr 0 H0 H → 1 + hcl (fun k => if tkd c = 52 ∧ k % 2 = 1 then hgc D j hs l (tkk c k) else hgt D j hs l (tkk c k)) m_ k h = R → mu_W (mu_D (d + l + 8)) mu_m474 (30, [(4, .inl (nI k)), (3, .inl h), (2, .inr (.inr (some (D.ip j)))), (1, .inr (.inr (some q))), (0, .inr (.inr (some 169)))], [], H) (fun r => ∃ x H1, r = (.inl (some (.inl x)), H1) ∧ x = R ∧ ffr 0 H0 H1)
  | 0, k, h, H, hm_, hr, hf, hR => by
    obtain ⟨kd1, ⟨is1, nF1, lt1⟩, ⟨st1, sr1, sf1⟩, ⟨n2_1, n3_1, n7_1⟩, nm1, ar1, aq1, aF1, ai1, ⟨al1, am1, ax1⟩, ch1, dp1⟩ := nd.ra (c := c) hn hr.2.1
    have hl := hn.s26
    refine mw_go mu_g474 (k := 3) (f1 := (36, [(4, .inl (nI k)), (3, .inl h), (2, .inr (.inr (some (D.ip j)))), (1, .inr (.inr (some q))), (0, .inr (.inr (some 169)))], [.inl (mu_i H q 2), .inl (nI k)], H)) (C := [mu_is H (some q) 18]) rfl (show mu_is H (some q) 18 from is1) ?_
    refine mw_fr (f' := (36, [(4, .inl (nI k)), (3, .inl h), (2, .inr (.inr (some (D.ip j)))), (1, .inr (.inr (some q))), (0, .inr (.inr (some 169)))], [.inl (nI (tsn c)), .inl (nI k)], H)) (by first | (rw [n2_1]; done) | (rw [n2_1]; rfl)) ?_
    refine mw_if (P := (nI k) < (nI (tsn c))) (a := 39) (b := 94) (fun _ => rfl) trivial (fun h1 => absurd h1 (by rw [show k = tsn c by omega]; exact Int32.lt_irrefl)) (fun h1 => ?_)
    refine mw_go mu_g474 (k := 3) (f1 := (97, [(4, .inl (nI k)), (3, .inl h), (2, .inr (.inr (some (D.ip j)))), (1, .inr (.inr (some q))), (0, .inr (.inr (some 169)))], [.inl ((1 : Int32) + h)], H)) (C := []) rfl trivial ?_
    exact mw_of (fun _ => mu_ret rfl trivial ⟨_, _, rfl, hR.symm ▸ rfl, hf⟩)
  | m_ + 1, k, h, H, hm_, hr, hf, hR => by
    obtain ⟨kd1, ⟨is1, nF1, lt1⟩, ⟨st1, sr1, sf1⟩, ⟨n2_1, n3_1, n7_1⟩, nm1, ar1, aq1, aF1, ai1, ⟨al1, am1, ax1⟩, ch1, dp1⟩ := nd.ra (c := c) hn hr.2.1
    have hl := hn.s26
    have hk : k < tsn c := by omega
    have pt := hx.pt hk hc
    refine mw_go mu_g474 (k := 3) (f1 := (36, [(4, .inl (nI k)), (3, .inl h), (2, .inr (.inr (some (D.ip j)))), (1, .inr (.inr (some q))), (0, .inr (.inr (some 169)))], [.inl (mu_i H q 2), .inl (nI k)], H)) (C := [mu_is H (some q) 18]) rfl (show mu_is H (some q) 18 from is1) ?_
    refine mw_fr (f' := (36, [(4, .inl (nI k)), (3, .inl h), (2, .inr (.inr (some (D.ip j)))), (1, .inr (.inr (some q))), (0, .inr (.inr (some 169)))], [.inl (nI (tsn c)), .inl (nI k)], H)) (by first | (rw [n2_1]; done) | (rw [n2_1]; rfl)) ?_
    refine mw_if (P := (nI k) < (nI (tsn c))) (a := 39) (b := 94) (fun _ => rfl) trivial (fun h1 => ?_) (fun h1 => absurd (nI_lt hk (by omega)) h1)
    refine mw_go mu_g474 (k := 3) (f1 := (43, [(4, .inl (nI k)), (3, .inl h), (2, .inr (.inr (some (D.ip j)))), (1, .inr (.inr (some q))), (0, .inr (.inr (some 169)))], [.inr (.inr (some 1000052)), .inr (.inr (some q)), .inl h], H)) (C := []) rfl trivial ?_
    refine mw_cIe (fun _ => rfl) (show mu_is H (some q) 18 from is1) (agr.isL (e := d + l + 5) (j := 52) hn hr.2.1 (by decide)) ?_
    refine mw_if (P := (if tkd c = 52 then 1 else 0) = 0) (a := 72) (b := 49) (fun _ => rfl) trivial (fun hi2 => ?_) (fun hi2 => ?_)
    · -- 72
      have ek2 : ¬ tkd c = 52 := fun e => by rw [if_pos e] at hi2; exact absurd hi2 (by decide)
      obtain ⟨y, yr3, yn3⟩ := ch1 k hk
      have yn3 : nd Hb D.G (dd - 1) y (tkk c k) := yn3
      obtain ⟨b1_3, b2_3, b3_3, b4_3⟩ := ar_at ai1 (by decide) (Nat.lt_of_lt_of_le hk al1) (Nat.lt_of_le_of_lt ax1 (by decide))
      have y2_3 : mu_r H ar1 (nI k).toNatClampNeg = some y := by rw [b4_3]; exact yr3
      refine mw_go mu_g474 (k := 3) (f1 := (77, [(4, .inl (nI k)), (3, .inl h), (2, .inr (.inr (some (D.ip j)))), (1, .inr (.inr (some q))), (0, .inr (.inr (some 169)))], [.inr (.inr (mu_r H q 1)), .inr (.inr (some 169)), .inl h], H)) (C := [mu_is H (some q) 18]) rfl (show mu_is H (some q) 18 from is1) ?_
      refine mw_fr (f' := (77, [(4, .inl (nI k)), (3, .inl h), (2, .inr (.inr (some (D.ip j)))), (1, .inr (.inr (some q))), (0, .inr (.inr (some 169)))], [.inr (.inr (some ar1)), .inr (.inr (some 169)), .inl h], H)) (by first | (rw [aq1]; done) | (rw [aq1]; rfl)) ?_
      refine mw_go mu_g474 (k := 2) (f1 := (80, [(4, .inl (nI k)), (3, .inl h), (2, .inr (.inr (some (D.ip j)))), (1, .inr (.inr (some q))), (0, .inr (.inr (some 169)))], [.inr (.inr (mu_r H ar1 (nI k).toNatClampNeg)), .inr (.inr (some 169)), .inl h], H)) (C := [mu_is H (some ar1) (mu_k H ar1), 103 ≤ mu_k H ar1 ∧ mu_k H ar1 ≤ 110 ∧ mu_k H ar1 ≠ 108, vp_in (nI k) (mu_n H ar1)]) rfl (show (mu_is H (some ar1) (mu_k H ar1)) ∧ (103 ≤ mu_k H ar1 ∧ mu_k H ar1 ≤ 110 ∧ mu_k H ar1 ≠ 108) ∧ (vp_in (nI k) (mu_n H ar1)) from ⟨b1_3, b2_3, b3_3⟩) ?_
      refine mw_fr (f' := (80, [(4, .inl (nI k)), (3, .inl h), (2, .inr (.inr (some (D.ip j)))), (1, .inr (.inr (some q))), (0, .inr (.inr (some 169)))], [.inr (.inr (some y)), .inr (.inr (some 169)), .inl h], H)) (by first | (rw [y2_3]; done) | (rw [y2_3]; rfl)) ?_
      refine mw_go mu_g474 (k := 1) (f1 := (81, [(4, .inl (nI k)), (3, .inl h), (2, .inr (.inr (some (D.ip j)))), (1, .inr (.inr (some q))), (0, .inr (.inr (some 169)))], [.inr (.inr (some (D.ip j))), .inr (.inr (some y)), .inr (.inr (some 169)), .inl h], H)) (C := []) rfl trivial ?_
      refine mw_cI (fun _ => rfl) (show mu_is H (some 169) 1 from hr.2.2.1.1) (mu_DcI (show d + 1 + l + 7 = d + l + 8 by omega) (rp_high (d := d + 1) hb l hr (hh.ff hf) hj yn3 (pt.1 (fun z => ek2 z.1)) (hkk.k hk))) (fun x9 H9 q9 => ?_)
      obtain ⟨q8, q9⟩ := q9
      subst q8
      show mu_W _ mu_m474 (84, [(4, .inl (nI k)), (3, .inl h), (2, .inr (.inr (some (D.ip j)))), (1, .inr (.inr (some q))), (0, .inr (.inr (some 169)))], [.inl (hgt D j hs l (tkk c k)), .inl h], H9) _
      refine mw_cIe (fun _ => rfl) trivial (mu_max_ok (d := d + l + 7) h (hgt D j hs l (tkk c k))) ?_
      refine mw_go mu_g474 (k := 3) (f1 := (30, [(4, .inl ((nI k) + 1)), (3, .inl (mu_max h (hgt D j hs l (tkk c k)))), (2, .inr (.inr (some (D.ip j)))), (1, .inr (.inr (some q))), (0, .inr (.inr (some 169)))], [], H9)) (C := []) rfl trivial ?_
      rw [hcl, if_neg (show ¬ (tkd c = 52 ∧ k % 2 = 1) from fun z => ek2 z.1)] at hR
      refine mw_sub (L' := [(4, .inl (nI (k + 1))), (3, .inl (mu_max h (hgt D j hs l (tkk c k)))), (2, .inr (.inr (some (D.ip j)))), (1, .inr (.inr (some q))), (0, .inr (.inr (some 169)))]) (by intro x hx; simp only [List.mem_cons, List.not_mem_nil, or_false] at hx ⊢; rcases hx with rfl | rfl | rfl | rfl | rfl <;> simp [nI_add, show (1 : Int32) = nI 1 from rfl]) ?_
      exact rp_hgC0 hb hh hj hn hx hc hkk ih m_ (k + 1) _ _ (by omega) (q9.rms hr) (hf.tr q9) hR
    · -- 49
      have ek2 : tkd c = 52 := Decidable.byContradiction (fun e => hi2 (if_neg e))
      refine mw_go mu_g474 (k := 4) (f1 := (54, [(4, .inl (nI k)), (3, .inl h), (2, .inr (.inr (some (D.ip j)))), (1, .inr (.inr (some q))), (0, .inr (.inr (some 169)))], [.inl (1 : Int32), .inl ((nI k) - (nI k) / (2 : Int32) * (2 : Int32)), .inl h], H)) (C := [¬ (2 : Int32) = 0]) rfl (show ¬ (2 : Int32) = 0 from (by decide)) ?_
      refine mw_if (P := ((nI k) - (nI k) / (2 : Int32) * (2 : Int32)) = (1 : Int32)) (a := 57) (b := 72) (fun _ => rfl) trivial (fun h2 => ?_) (fun h2 => ?_)
      · -- 57
        have o1 := (rI_odd (by omega)).mp h2
        obtain ⟨y, yr4, yn4⟩ := ch1 k hk
        have yn4 : nd Hb D.G (dd - 1) y (tkk c k) := yn4
        obtain ⟨b1_4, b2_4, b3_4, b4_4⟩ := ar_at ai1 (by decide) (Nat.lt_of_lt_of_le hk al1) (Nat.lt_of_le_of_lt ax1 (by decide))
        have y2_4 : mu_r H ar1 (nI k).toNatClampNeg = some y := by rw [b4_4]; exact yr4
        refine mw_go mu_g474 (k := 3) (f1 := (62, [(4, .inl (nI k)), (3, .inl h), (2, .inr (.inr (some (D.ip j)))), (1, .inr (.inr (some q))), (0, .inr (.inr (some 169)))], [.inr (.inr (mu_r H q 1)), .inr (.inr (some 169)), .inl h], H)) (C := [mu_is H (some q) 18]) rfl (show mu_is H (some q) 18 from is1) ?_
        refine mw_fr (f' := (62, [(4, .inl (nI k)), (3, .inl h), (2, .inr (.inr (some (D.ip j)))), (1, .inr (.inr (some q))), (0, .inr (.inr (some 169)))], [.inr (.inr (some ar1)), .inr (.inr (some 169)), .inl h], H)) (by first | (rw [aq1]; done) | (rw [aq1]; rfl)) ?_
        refine mw_go mu_g474 (k := 2) (f1 := (65, [(4, .inl (nI k)), (3, .inl h), (2, .inr (.inr (some (D.ip j)))), (1, .inr (.inr (some q))), (0, .inr (.inr (some 169)))], [.inr (.inr (mu_r H ar1 (nI k).toNatClampNeg)), .inr (.inr (some 169)), .inl h], H)) (C := [mu_is H (some ar1) (mu_k H ar1), 103 ≤ mu_k H ar1 ∧ mu_k H ar1 ≤ 110 ∧ mu_k H ar1 ≠ 108, vp_in (nI k) (mu_n H ar1)]) rfl (show (mu_is H (some ar1) (mu_k H ar1)) ∧ (103 ≤ mu_k H ar1 ∧ mu_k H ar1 ≤ 110 ∧ mu_k H ar1 ≠ 108) ∧ (vp_in (nI k) (mu_n H ar1)) from ⟨b1_4, b2_4, b3_4⟩) ?_
        refine mw_fr (f' := (65, [(4, .inl (nI k)), (3, .inl h), (2, .inr (.inr (some (D.ip j)))), (1, .inr (.inr (some q))), (0, .inr (.inr (some 169)))], [.inr (.inr (some y)), .inr (.inr (some 169)), .inl h], H)) (by first | (rw [y2_4]; done) | (rw [y2_4]; rfl)) ?_
        refine mw_go mu_g474 (k := 1) (f1 := (66, [(4, .inl (nI k)), (3, .inl h), (2, .inr (.inr (some (D.ip j)))), (1, .inr (.inr (some q))), (0, .inr (.inr (some 169)))], [.inr (.inr (some (D.ip j))), .inr (.inr (some y)), .inr (.inr (some 169)), .inl h], H)) (C := []) rfl trivial ?_
        refine mw_cI (fun _ => rfl) (show mu_is H (some 169) 1 from hr.2.2.1.1) (ih _ _ _ _ hr (hh.ff hf) yn4 (pt.2 ⟨ek2, o1⟩) (hkk.k hk)) (fun x9 H9 q9 => ?_)
        obtain ⟨q8, q9⟩ := q9
        subst q8
        show mu_W _ mu_m474 (69, [(4, .inl (nI k)), (3, .inl h), (2, .inr (.inr (some (D.ip j)))), (1, .inr (.inr (some q))), (0, .inr (.inr (some 169)))], [.inl (hgc D j hs l (tkk c k)), .inl h], H9) _
        refine mw_go mu_g474 (k := 1) (f1 := (84, [(4, .inl (nI k)), (3, .inl h), (2, .inr (.inr (some (D.ip j)))), (1, .inr (.inr (some q))), (0, .inr (.inr (some 169)))], [.inl (hgc D j hs l (tkk c k)), .inl h], H9)) (C := []) rfl trivial ?_
        refine mw_cIe (fun _ => rfl) trivial (mu_max_ok (d := d + l + 7) h (hgc D j hs l (tkk c k))) ?_
        refine mw_go mu_g474 (k := 3) (f1 := (30, [(4, .inl ((nI k) + 1)), (3, .inl (mu_max h (hgc D j hs l (tkk c k)))), (2, .inr (.inr (some (D.ip j)))), (1, .inr (.inr (some q))), (0, .inr (.inr (some 169)))], [], H9)) (C := []) rfl trivial ?_
        rw [hcl, if_pos (show tkd c = 52 ∧ k % 2 = 1 from ⟨ek2, o1⟩)] at hR
        refine mw_sub (L' := [(4, .inl (nI (k + 1))), (3, .inl (mu_max h (hgc D j hs l (tkk c k)))), (2, .inr (.inr (some (D.ip j)))), (1, .inr (.inr (some q))), (0, .inr (.inr (some 169)))]) (by intro x hx; simp only [List.mem_cons, List.not_mem_nil, or_false] at hx ⊢; rcases hx with rfl | rfl | rfl | rfl | rfl <;> simp [nI_add, show (1 : Int32) = nI 1 from rfl]) ?_
        exact rp_hgC0 hb hh hj hn hx hc hkk ih m_ (k + 1) _ _ (by omega) (q9.rms hr) (hf.tr q9) hR
      · -- 72
        obtain ⟨y, yr5, yn5⟩ := ch1 k hk
        have yn5 : nd Hb D.G (dd - 1) y (tkk c k) := yn5
        obtain ⟨b1_5, b2_5, b3_5, b4_5⟩ := ar_at ai1 (by decide) (Nat.lt_of_lt_of_le hk al1) (Nat.lt_of_le_of_lt ax1 (by decide))
        have y2_5 : mu_r H ar1 (nI k).toNatClampNeg = some y := by rw [b4_5]; exact yr5
        refine mw_go mu_g474 (k := 3) (f1 := (77, [(4, .inl (nI k)), (3, .inl h), (2, .inr (.inr (some (D.ip j)))), (1, .inr (.inr (some q))), (0, .inr (.inr (some 169)))], [.inr (.inr (mu_r H q 1)), .inr (.inr (some 169)), .inl h], H)) (C := [mu_is H (some q) 18]) rfl (show mu_is H (some q) 18 from is1) ?_
        refine mw_fr (f' := (77, [(4, .inl (nI k)), (3, .inl h), (2, .inr (.inr (some (D.ip j)))), (1, .inr (.inr (some q))), (0, .inr (.inr (some 169)))], [.inr (.inr (some ar1)), .inr (.inr (some 169)), .inl h], H)) (by first | (rw [aq1]; done) | (rw [aq1]; rfl)) ?_
        refine mw_go mu_g474 (k := 2) (f1 := (80, [(4, .inl (nI k)), (3, .inl h), (2, .inr (.inr (some (D.ip j)))), (1, .inr (.inr (some q))), (0, .inr (.inr (some 169)))], [.inr (.inr (mu_r H ar1 (nI k).toNatClampNeg)), .inr (.inr (some 169)), .inl h], H)) (C := [mu_is H (some ar1) (mu_k H ar1), 103 ≤ mu_k H ar1 ∧ mu_k H ar1 ≤ 110 ∧ mu_k H ar1 ≠ 108, vp_in (nI k) (mu_n H ar1)]) rfl (show (mu_is H (some ar1) (mu_k H ar1)) ∧ (103 ≤ mu_k H ar1 ∧ mu_k H ar1 ≤ 110 ∧ mu_k H ar1 ≠ 108) ∧ (vp_in (nI k) (mu_n H ar1)) from ⟨b1_5, b2_5, b3_5⟩) ?_
        refine mw_fr (f' := (80, [(4, .inl (nI k)), (3, .inl h), (2, .inr (.inr (some (D.ip j)))), (1, .inr (.inr (some q))), (0, .inr (.inr (some 169)))], [.inr (.inr (some y)), .inr (.inr (some 169)), .inl h], H)) (by first | (rw [y2_5]; done) | (rw [y2_5]; rfl)) ?_
        refine mw_go mu_g474 (k := 1) (f1 := (81, [(4, .inl (nI k)), (3, .inl h), (2, .inr (.inr (some (D.ip j)))), (1, .inr (.inr (some q))), (0, .inr (.inr (some 169)))], [.inr (.inr (some (D.ip j))), .inr (.inr (some y)), .inr (.inr (some 169)), .inl h], H)) (C := []) rfl trivial ?_
        refine mw_cI (fun _ => rfl) (show mu_is H (some 169) 1 from hr.2.2.1.1) (mu_DcI (show d + 1 + l + 7 = d + l + 8 by omega) (rp_high (d := d + 1) hb l hr (hh.ff hf) hj yn5 (pt.1 (fun z => h2 ((rI_odd (by omega)).mpr z.2))) (hkk.k hk))) (fun x9 H9 q9 => ?_)
        obtain ⟨q8, q9⟩ := q9
        subst q8
        show mu_W _ mu_m474 (84, [(4, .inl (nI k)), (3, .inl h), (2, .inr (.inr (some (D.ip j)))), (1, .inr (.inr (some q))), (0, .inr (.inr (some 169)))], [.inl (hgt D j hs l (tkk c k)), .inl h], H9) _
        refine mw_cIe (fun _ => rfl) trivial (mu_max_ok (d := d + l + 7) h (hgt D j hs l (tkk c k))) ?_
        refine mw_go mu_g474 (k := 3) (f1 := (30, [(4, .inl ((nI k) + 1)), (3, .inl (mu_max h (hgt D j hs l (tkk c k)))), (2, .inr (.inr (some (D.ip j)))), (1, .inr (.inr (some q))), (0, .inr (.inr (some 169)))], [], H9)) (C := []) rfl trivial ?_
        rw [hcl, if_neg (show ¬ (tkd c = 52 ∧ k % 2 = 1) from fun z => h2 ((rI_odd (by omega)).mpr z.2))] at hR
        refine mw_sub (L' := [(4, .inl (nI (k + 1))), (3, .inl (mu_max h (hgt D j hs l (tkk c k)))), (2, .inr (.inr (some (D.ip j)))), (1, .inr (.inr (some q))), (0, .inr (.inr (some 169)))]) (by intro x hx; simp only [List.mem_cons, List.not_mem_nil, or_false] at hx ⊢; rcases hx with rfl | rfl | rfl | rfl | rfl <;> simp [nI_add, show (1 : Int32) = nI 1 from rfl]) ?_
        exact rp_hgC0 hb hh hj hn hx hc hkk ih m_ (k + 1) _ _ (by omega) (q9.rms hr) (hf.tr q9) hR
theorem rp_highC {Hb : mu_H} {D : MD} {hp : Nat} {hs : Nat → Int32} {j d : Nat} (hb : mdb D) : ∀ l {H : mu_H} {dd q : Nat} {c : Tre}, rms Hb D H → hts H D hp hs → j < D.n → nd Hb D.G dd q c → chw l c → nmk D j c → mu_TI (mu_D (d + l + 8)) 474 [.inr (.inr (some 169)), .inr (.inr (some q)), .inr (.inr (some (D.ip j)))] H (fun x H1 => x = hgc D j hs l c ∧ ffr 0 H H1)
  | 0, _, _, _, _, _, _, _, _, hx, _ => hx.elim
  | l + 1, H, dd, q, c, hr, hh, hj, hn, hx, hk => by
    refine mu_meth (M := mu_m474) rfl rfl ?_
    refine mw_ht (mu_fn_of (show [0, 1, 2].Nodup by decide)) ?_
    obtain ⟨kd1, ⟨is1, nF1, lt1⟩, ⟨st1, sr1, sf1⟩, ⟨n2_1, n3_1, n7_1⟩, nm1, ar1, aq1, aF1, ai1, ⟨al1, am1, ax1⟩, ch1, dp1⟩ := nd.ra (c := c) hn hr.2.1
    refine mw_go mu_g474 (k := 2) (f1 := (3, [(0, .inr (.inr (some 169))), (1, .inr (.inr (some q))), (2, .inr (.inr (some (D.ip j))))], [.inr (.inr (some 1000010)), .inr (.inr (some q))], H)) (C := []) rfl trivial ?_
    refine mw_cIe (fun _ => rfl) (show mu_is H (some q) 18 from is1) (agr.isL (e := d + l + 5) (j := 10) hn hr.2.1 (by decide)) ?_
    refine mw_if (P := (if tkd c = 10 then 1 else 0) = 0) (a := 9) (b := 25) (fun _ => rfl) trivial (fun hi2 => ?_) (fun hi2 => ?_)
    · -- 9
      have ek2 : ¬ tkd c = 10 := fun e => by rw [if_pos e] at hi2; exact absurd hi2 (by decide)
      refine mw_go mu_g474 (k := 2) (f1 := (12, [(0, .inr (.inr (some 169))), (1, .inr (.inr (some q))), (2, .inr (.inr (some (D.ip j))))], [.inr (.inr (some 1000052)), .inr (.inr (some q))], H)) (C := []) rfl trivial ?_
      refine mw_cIe (fun _ => rfl) (show mu_is H (some q) 18 from is1) (agr.isL (e := d + l + 5) (j := 52) hn hr.2.1 (by decide)) ?_
      refine mw_if (P := (if tkd c = 52 then 1 else 0) = 0) (a := 18) (b := 25) (fun _ => rfl) trivial (fun hi3 => ?_) (fun hi3 => ?_)
      · -- 18
        have ek3 : ¬ tkd c = 52 := fun e => by rw [if_pos e] at hi3; exact absurd hi3 (by decide)
        refine mw_go mu_g474 (k := 3) (f1 := (21, [(0, .inr (.inr (some 169))), (1, .inr (.inr (some q))), (2, .inr (.inr (some (D.ip j))))], [.inr (.inr (some (D.ip j))), .inr (.inr (some q)), .inr (.inr (some 169))], H)) (C := []) rfl trivial ?_
        have nc : ¬ (tkd c = 10 ∨ tkd c = 52) := fun z => z.elim ek2 ek3
        have em : hgc D j hs (l + 1) c = hgt D j hs (l + 1) c := by rw [hgc, if_neg nc]
        refine mw_cI (fun _ => rfl) (show mu_is H (some 169) 1 from hr.2.2.1.1) (rp_high (d := d) hb (l + 1) hr hh hj hn (hx.no nc) hk) (fun x9 H9 q9 => ?_)
        obtain ⟨q8, q9⟩ := q9
        subst q8
        show mu_W _ mu_m474 (24, [(0, .inr (.inr (some 169))), (1, .inr (.inr (some q))), (2, .inr (.inr (some (D.ip j))))], [.inl (hgt D j hs (l + 1) c)], H9) _
        exact mw_of (fun _ => mu_ret rfl trivial ⟨_, _, rfl, em.symm, q9⟩)
      · -- 25
        have ek3 : tkd c = 52 := Decidable.byContradiction (fun e => hi3 (if_neg e))
        refine mw_go mu_g474 (k := 4) (f1 := (30, [(4, .inl (0 : Int32)), (3, .inl (0 : Int32)), (0, .inr (.inr (some 169))), (1, .inr (.inr (some q))), (2, .inr (.inr (some (D.ip j))))], [], H)) (C := []) rfl trivial ?_
        have em : hgc D j hs (l + 1) c = 1 + hcl (fun k => if tkd c = 52 ∧ k % 2 = 1 then hgc D j hs l (tkk c k) else hgt D j hs l (tkk c k)) (tsn c) 0 0 := by rw [hgc, if_pos (Or.inr ek3)]
        rw [em]
        refine mw_sub (L' := [(4, .inl (nI 0)), (3, .inl (0 : Int32)), (2, .inr (.inr (some (D.ip j)))), (1, .inr (.inr (some q))), (0, .inr (.inr (some 169)))]) (by intro x hx; simp only [List.mem_cons, List.not_mem_nil, or_false] at hx ⊢; rcases hx with rfl | rfl | rfl | rfl | rfl <;> simp [nI]) ?_
        exact rp_hgC0 hb hh hj hn hx (Or.inr ek3) hk (fun q c H dd hr hh hn hx hk => rp_highC hb l hr hh hj hn hx hk) (tsn c) 0 0 _ (Nat.zero_add _) hr ffr.rf rfl
    · -- 25
      have ek2 : tkd c = 10 := Decidable.byContradiction (fun e => hi2 (if_neg e))
      refine mw_go mu_g474 (k := 4) (f1 := (30, [(4, .inl (0 : Int32)), (3, .inl (0 : Int32)), (0, .inr (.inr (some 169))), (1, .inr (.inr (some q))), (2, .inr (.inr (some (D.ip j))))], [], H)) (C := []) rfl trivial ?_
      have em : hgc D j hs (l + 1) c = 1 + hcl (fun k => if tkd c = 52 ∧ k % 2 = 1 then hgc D j hs l (tkk c k) else hgt D j hs l (tkk c k)) (tsn c) 0 0 := by rw [hgc, if_pos (Or.inl ek2)]
      rw [em]
      refine mw_sub (L' := [(4, .inl (nI 0)), (3, .inl (0 : Int32)), (2, .inr (.inr (some (D.ip j)))), (1, .inr (.inr (some q))), (0, .inr (.inr (some 169)))]) (by intro x hx; simp only [List.mem_cons, List.not_mem_nil, or_false] at hx ⊢; rcases hx with rfl | rfl | rfl | rfl | rfl <;> simp [nI]) ?_
      exact rp_hgC0 hb hh hj hn hx (Or.inl ek2) hk (fun q c H dd hr hh hn hx hk => rp_highC hb l hr hh hj hn hx hk) (tsn c) 0 0 _ (Nat.zero_add _) hr ffr.rf rfl
