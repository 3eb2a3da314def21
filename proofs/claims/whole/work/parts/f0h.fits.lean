/-! RELATION: factorOf, fits, reserve, hasRoom, putAside -/
theorem tnz_int {x : Int64} {a : Nat} (h : tnz x = a) (ha : a < 9223372036854775808) : x.toInt = (a : Int) := by
  have e : x.toInt = x.toBitVec.toInt := rfl
  unfold tnz at h
  rw [e, BitVec.toInt_eq_toNat_of_lt (by omega), h]
theorem lg_gt {x y : Int64} {a b : Nat} (hx : tnz x = a) (hy : tnz y = b) (ha : a < 9223372036854775808) (hb : b < 9223372036854775808) : 0 < lg_cmp x y ↔ b < a := by
  have e1 := tnz_int hx ha
  have e2 := tnz_int hy hb
  unfold lg_cmp
  by_cases h : x > y
  · rw [if_pos h]
    have h2 := Int64.lt_iff_toInt_lt.mp h
    exact ⟨fun _ => by omega, fun _ => by decide⟩
  · rw [if_neg h]
    have h2 : ¬ b < a := fun z => h (Int64.lt_iff_toInt_lt.mpr (by omega))
    by_cases h3 : x = y
    · rw [if_pos h3]
      exact ⟨fun z => absurd z (by decide), fun z => absurd z h2⟩
    · rw [if_neg h3]
      exact ⟨fun z => absurd z (by decide), fun z => absurd z h2⟩
theorem tnz_mul {x y : Int64} (h : tnz x * tnz y < 18446744073709551616) : tnz (x * y) = tnz x * tnz y := by
  unfold tnz at h ⊢
  rw [Int64.toBitVec_mul, BitVec.toNat_mul, Nat.mod_eq_of_lt h]
/-- how long outs may be -/
def OLN (n : Nat) : Prop := n = 64 ∨ n = 1024 ∨ n = 32768
theorem fits_no {n sf us c sp : Nat} (h1 : n + c < 4294967296) (hs : us - sf < 2147483648) (hc : c < 2147483648) (hn : n < 2147483648) (hsp : sp < 2147483648) (b1 : ¬ 0 < lg_cmp ((nI n).toInt64 + (nI c).toInt64) (32768 : Int64)) (b2 : ¬ 0 < lg_cmp ((nI (us - sf)).toInt64 + (nI c).toInt64 * (nI sp).toInt64) (65536 : Int64)) : n + c ≤ 32768 ∧ us - sf + c * sp ≤ 65536 := by
  have e1 := i2l_val hn
  have e2 := i2l_val hc
  have e3 := i2l_val hs
  have e4 := i2l_val hsp
  have m1 : c * sp < 4611686018427387905 := by
    have z1 : c * sp ≤ 2147483648 * 2147483648 := Nat.mul_le_mul (by omega) (by omega)
    omega
  have e5 : tnz ((nI c).toInt64 * (nI sp).toInt64) = c * sp := by
    rw [tnz_mul (by rw [e2, e4]; omega), e2, e4]
  have e6 : tnz ((nI n).toInt64 + (nI c).toInt64) = n + c := by
    rw [tnz_add (by rw [e1, e2]; omega), e1, e2]
  have e7 : tnz ((nI (us - sf)).toInt64 + (nI c).toInt64 * (nI sp).toInt64) = us - sf + c * sp := by
    rw [tnz_add (by rw [e3, e5]; omega), e3, e5]
  have q1 : ¬ 32768 < n + c := fun z => b1 ((lg_gt e6 (show tnz 32768 = 32768 by rfl) (by omega) (by decide)).mpr z)
  have q2 : ¬ 65536 < us - sf + c * sp := fun z => b2 ((lg_gt e7 (show tnz 65536 = 65536 by rfl) (by omega) (by decide)).mpr z)
  omega
theorem fits_no2 {sf us c sp : Nat} (hs : us - sf < 2147483648) (hc : c < 2147483648) (hsp : sp < 2147483648) (b2 : ¬ 0 < lg_cmp ((nI (us - sf)).toInt64 + (nI c).toInt64 * (nI sp).toInt64) (65536 : Int64)) : us - sf + c * sp ≤ 65536 := by
  have e2 := i2l_val hc
  have e3 := i2l_val hs
  have e4 := i2l_val hsp
  have m1 : c * sp < 4611686018427387905 := by
    have z1 : c * sp ≤ 2147483648 * 2147483648 := Nat.mul_le_mul (by omega) (by omega)
    omega
  have e5 : tnz ((nI c).toInt64 * (nI sp).toInt64) = c * sp := by
    rw [tnz_mul (by rw [e2, e4]; omega), e2, e4]
  have e7 : tnz ((nI (us - sf)).toInt64 + (nI c).toInt64 * (nI sp).toInt64) = us - sf + c * sp := by
    rw [tnz_add (by rw [e3, e5]; omega), e3, e5]
  have q2 : ¬ 65536 < us - sf + c * sp := fun z => b2 ((lg_gt e7 (show tnz 65536 = 65536 by rfl) (by omega) (by decide)).mpr z)
  omega
/-- a factor of the latest branch that looks at these VARIABLES -/
def KNF (nf : Nat) (nm tm : Nat → Int32) (st : Nat) (mk tk : Int32) (q : Nat) : Prop := (st ≤ q ∧ q < nf) ∧ nm q = mk ∧ tm q = tk
/-- the factors' masks, and the branches -/
def FMS (U : Ud) (nf : Nat) (nm tm : Nat → Int32) (nb : Nat) (bo : Nat → Nat → Nat) : Prop := ((U.1 24).1 = nf ∧ nf ≤ 67108864) ∧ (∀ q, q < nf → (U.1 24).2 q 0 = nm q ∧ (U.1 24).2 q 1 = tm q) ∧ BRT U nb bo ∧ bo (nb - 1) 0 ≤ nf
theorem FMS.eq {U V : Ud} {nf nb : Nat} {nm tm : Nat → Int32} {bo : Nat → Nat → Nat} (h : FMS U nf nm tm nb bo) (e24 : V.1 24 = U.1 24) (e27 : V.1 27 = U.1 27) : FMS V nf nm tm nb bo := by
  obtain ⟨h1, h2, h3, h4⟩ := h
  exact ⟨by rw [e24]; exact h1, fun q hq => by rw [e24]; exact h2 q hq, h3.eq e27, h4⟩
section Fits
variable {H : mu_H} {U V : Ud} {m d P k ou us sf mn mo sp nf nb : Nat} {C : Nat → Nat} {bo : Nat → Nat → Nat} {f : Nat → Nat} {nm tm : Nat → Int32} {mk tk : Int32}
/-- PathProver$Relation.factorOf(II)I -/
abbrev mu_m386 : ev_M := (4, (some .int), [], ev_b386)
theorem mu_g386 : mu_good mu_m386 := mu_goodk ev_k386
theorem rl_facof (h : um m H) (e : ud m H = U) (hF : FMS U nf nm tm nb bo) : mu_TI (mu_D (d + 2)) 386 [.inr (.inr (some 129)), .inl mk, .inl tk] H (fun x H1 => (H1 = H ∧ x = -1 ∧ ∀ q, ¬ KNF nf nm tm (bo (nb - 1) 0) mk tk q) ∨ ∃ q, H1 = H ∧ x = nI q ∧ KNF nf nm tm (bo (nb - 1) 0) mk tk q) := by
  have hB := hF.2.2.1
  have hnb1 := hB.1
  have hnb2 := hB.2.1
  have hnf1 := hF.1
  have hst := hF.2.2.2
  refine mu_meth (M := mu_m386) rfl rfl ?_
  refine mw_ht (mu_fn_of (show [0, 1, 2].Nodup by decide)) ?_
  refine mw_go mu_g386 (k := 2) (f1 := (4, [(0, .inr (.inr (some 129))), (1, .inl mk), (2, .inl tk)], [.inr (.inr (mu_r H 129 23))], H)) (C := [mu_is H (some 129) 9]) rfl (show mu_is H (some 129) 9 from (h.1.1.is rfl)) ?_
  rw [(h.1.1.r (p := 129) (j := 23) (q := 167) rfl)]
  refine mw_go mu_g386 (k := 2) (f1 := (8, [(0, .inr (.inr (some 129))), (1, .inl mk), (2, .inl tk)], [.inr (.inr (mu_r H 129 23)), .inr (.inr (some 167))], H)) (C := [mu_is H (some 129) 9]) rfl (show mu_is H (some 129) 9 from (h.1.1.is rfl)) ?_
  rw [(h.1.1.r (p := 129) (j := 23) (q := 167) rfl)]
  refine mw_go mu_g386 (k := 1) (f1 := (11, [(0, .inr (.inr (some 129))), (1, .inl mk), (2, .inl tk)], [.inl (mu_i H 167 2), .inr (.inr (some 167))], H)) (C := [mu_is H (some 167) 10]) rfl (show mu_is H (some 167) 10 from (h.1.1.is rfl)) ?_
  rw [(show mu_i H 167 2 = (nI nb) from (h.size e (j := 27) (by decide) rfl).trans (congrArg nI ((congrArg Prod.fst (show U.1 27 = (U.1 27) from rfl)).trans (show (U.1 27).1 = nb from hB.1))))]
  refine mw_go mu_g386 (k := 2) (f1 := (13, [(0, .inr (.inr (some 129))), (1, .inl mk), (2, .inl tk)], [.inl ((nI nb) - (1 : Int32)), .inr (.inr (some 167))], H)) (C := []) rfl trivial ?_
  rw [(show ((nI nb) - (1 : Int32)) = (nI (nb - 1)) from (nI_sub (a := nb) (b := 1) (by omega)))]
  refine mw_go mu_g386 (k := 1) (f1 := (14, [(0, .inr (.inr (some 129))), (1, .inl mk), (2, .inl tk)], [.inl (0 : Int32), .inl (nI (nb - 1)), .inr (.inr (some 167))], H)) (C := []) rfl trivial ?_
  refine mw_cIe (fun _ => rfl) (show mu_is H (some 167) 10 from (h.1.1.is rfl)) (h.getr (d := d) e (j := 27) (by decide) rfl (nI (nb - 1)) (c := 0) (by decide)) ?_
  rw [show (tget (U.1 27) (nI (nb - 1)) 0) = (nI (bo (nb - 1) 0)) from ((congrArg (fun z => tget z (nI (nb - 1)) 0) (show U.1 27 = (U.1 27) from rfl)).trans (tget_nI (by omega))).trans (hB.2.2 (nb - 1) 0 (by omega) (by decide)).1]
  refine mw_go mu_g386 (k := 1) (f1 := (18, [(3, .inl (nI (bo (nb - 1) 0))), (0, .inr (.inr (some 129))), (1, .inl mk), (2, .inl tk)], [], H)) (C := []) rfl trivial ?_
  refine mw_sub (L' := [(3, .inl (nI (bo (nb - 1) 0))), (0, .inr (.inr (some 129))), (1, .inl mk), (2, .inl tk)]) (by simp) ?_
  refine mw_down (α := Nat) (fun zs => (18, [(3, .inl (nI zs)), (0, .inr (.inr (some 129))), (1, .inl mk), (2, .inl tk)], [], H)) (fun zs => nf - zs) (fun zs => (bo (nb - 1) 0 ≤ zs ∧ zs ≤ nf) ∧ (∀ r, bo (nb - 1) 0 ≤ r → r < zs → ¬ (nm r = mk ∧ tm r = tk))) (fun zs hza iha => ?_) (bo (nb - 1) 0) ⟨(show bo (nb - 1) 0 ≤ (bo (nb - 1) 0) ∧ (bo (nb - 1) 0) ≤ nf from (by omega)), (show ∀ r, bo (nb - 1) 0 ≤ r → r < (bo (nb - 1) 0) → ¬ (nm r = mk ∧ tm r = tk) from (fun r h1 h2 => absurd h1 (by omega)))⟩
  obtain ⟨q, rfl⟩ : ∃ y, y = zs := ⟨zs, rfl⟩
  obtain ⟨hq, hno⟩ := hza
  have hq : bo (nb - 1) 0 ≤ q ∧ q ≤ nf := hq
  have hno : ∀ r, bo (nb - 1) 0 ≤ r → r < q → ¬ (nm r = mk ∧ tm r = tk) := hno
  show mu_W _ _ (18, [(3, .inl (nI q)), (0, .inr (.inr (some 129))), (1, .inl mk), (2, .inl tk)], [], H) _
  refine mw_go mu_g386 (k := 3) (f1 := (23, [(3, .inl (nI q)), (0, .inr (.inr (some 129))), (1, .inl mk), (2, .inl tk)], [.inr (.inr (mu_r H 129 1)), .inl (nI q)], H)) (C := [mu_is H (some 129) 9]) rfl (show mu_is H (some 129) 9 from (h.1.1.is rfl)) ?_
  rw [(h.1.1.r (p := 129) (j := 1) (q := 130) rfl)]
  refine mw_go mu_g386 (k := 1) (f1 := (26, [(3, .inl (nI q)), (0, .inr (.inr (some 129))), (1, .inl mk), (2, .inl tk)], [.inl (mu_i H 130 2), .inl (nI q)], H)) (C := [mu_is H (some 130) 10]) rfl (show mu_is H (some 130) 10 from (h.1.1.is rfl)) ?_
  rw [(show mu_i H 130 2 = (nI nf) from (h.size e (j := 24) (by decide) rfl).trans (congrArg nI ((congrArg Prod.fst (show U.1 24 = (U.1 24) from rfl)).trans (show (U.1 24).1 = nf from hF.1.1))))]
  refine mw_if (P := (nI q) < (nI nf)) (a := 29) (b := 63) (fun _ => rfl) trivial (fun h2 => ?_) (fun h2 => ?_)
  · -- 29: (nI q) < (nI nf)
    have nh2 : q < nf := (nI_ltI (by omega) (by omega)).mp (show nI q < nI nf from h2)
    refine mw_go mu_g386 (k := 2) (f1 := (33, [(3, .inl (nI q)), (0, .inr (.inr (some 129))), (1, .inl mk), (2, .inl tk)], [.inr (.inr (mu_r H 129 1))], H)) (C := [mu_is H (some 129) 9]) rfl (show mu_is H (some 129) 9 from (h.1.1.is rfl)) ?_
    rw [(h.1.1.r (p := 129) (j := 1) (q := 130) rfl)]
    refine mw_go mu_g386 (k := 2) (f1 := (35, [(3, .inl (nI q)), (0, .inr (.inr (some 129))), (1, .inl mk), (2, .inl tk)], [.inl (0 : Int32), .inl (nI q), .inr (.inr (some 130))], H)) (C := []) rfl trivial ?_
    refine mw_cIe (fun _ => rfl) (show mu_is H (some 130) 10 from (h.1.1.is rfl)) (h.getr (d := d) e (j := 24) (by decide) rfl (nI q) (c := 0) (by decide)) ?_
    rw [show (tget (U.1 24) (nI q) 0) = (nm q) from ((congrArg (fun z => tget z (nI q) 0) (show U.1 24 = (U.1 24) from rfl)).trans (tget_nI (by omega))).trans (hF.2.1 q (by omega)).1]
    refine mw_go mu_g386 (k := 1) (f1 := (39, [(3, .inl (nI q)), (0, .inr (.inr (some 129))), (1, .inl mk), (2, .inl tk)], [.inl mk, .inl (nm q)], H)) (C := []) rfl trivial ?_
    refine mw_if (P := (nm q) = mk) (a := 42) (b := 57) (fun _ => rfl) trivial (fun h4 => ?_) (fun h4 => ?_)
    · -- 42: (nm q) = mk
      refine mw_go mu_g386 (k := 2) (f1 := (46, [(3, .inl (nI q)), (0, .inr (.inr (some 129))), (1, .inl mk), (2, .inl tk)], [.inr (.inr (mu_r H 129 1))], H)) (C := [mu_is H (some 129) 9]) rfl (show mu_is H (some 129) 9 from (h.1.1.is rfl)) ?_
      rw [(h.1.1.r (p := 129) (j := 1) (q := 130) rfl)]
      refine mw_go mu_g386 (k := 2) (f1 := (48, [(3, .inl (nI q)), (0, .inr (.inr (some 129))), (1, .inl mk), (2, .inl tk)], [.inl (1 : Int32), .inl (nI q), .inr (.inr (some 130))], H)) (C := []) rfl trivial ?_
      refine mw_cIe (fun _ => rfl) (show mu_is H (some 130) 10 from (h.1.1.is rfl)) (h.getr (d := d) e (j := 24) (by decide) rfl (nI q) (c := 1) (by decide)) ?_
      rw [show (tget (U.1 24) (nI q) 1) = (tm q) from ((congrArg (fun z => tget z (nI q) 1) (show U.1 24 = (U.1 24) from rfl)).trans (tget_nI (by omega))).trans (hF.2.1 q (by omega)).2]
      refine mw_go mu_g386 (k := 1) (f1 := (52, [(3, .inl (nI q)), (0, .inr (.inr (some 129))), (1, .inl mk), (2, .inl tk)], [.inl tk, .inl (tm q)], H)) (C := []) rfl trivial ?_
      refine mw_if (P := (tm q) = tk) (a := 55) (b := 57) (fun _ => rfl) trivial (fun h6 => ?_) (fun h6 => ?_)
      · -- 55: (tm q) = tk
        refine mw_go mu_g386 (k := 1) (f1 := (56, [(3, .inl (nI q)), (0, .inr (.inr (some 129))), (1, .inl mk), (2, .inl tk)], [.inl (nI q)], H)) (C := []) rfl trivial ?_
        exact mw_of (fun _ => mu_ret rfl trivial ⟨_, H, rfl, Or.inr ⟨q, rfl, rfl, ⟨by omega, by omega⟩, h4, h6⟩⟩)
      · -- 57: not (tm q) = tk
        refine mw_go mu_g386 (k := 1) (f1 := (60, [(3, .inl ((nI q) + 1)), (0, .inr (.inr (some 129))), (1, .inl mk), (2, .inl tk)], [], H)) (C := []) rfl trivial ?_
        rw [(show ((nI q) + 1) = (nI (q + 1)) from (nI_add q 1))]
        refine mw_go mu_g386 (k := 1) (f1 := (18, [(3, .inl (nI (q + 1))), (0, .inr (.inr (some 129))), (1, .inl mk), (2, .inl tk)], [], H)) (C := []) rfl trivial ?_
        exact mw_sub (by simp) (iha (q + 1) ⟨(show bo (nb - 1) 0 ≤ (q + 1) ∧ (q + 1) ≤ nf from (by omega)), (show ∀ r, bo (nb - 1) 0 ≤ r → r < (q + 1) → ¬ (nm r = mk ∧ tm r = tk) from (fun r k1 k2 => by by_cases e0 : r = q; (rw [e0]; exact fun y => absurd y.2 h6); exact hno r k1 (by omega)))⟩ (by show nf - (q + 1) < nf - q; omega))
    · -- 57: not (nm q) = mk
      refine mw_go mu_g386 (k := 1) (f1 := (60, [(3, .inl ((nI q) + 1)), (0, .inr (.inr (some 129))), (1, .inl mk), (2, .inl tk)], [], H)) (C := []) rfl trivial ?_
      rw [(show ((nI q) + 1) = (nI (q + 1)) from (nI_add q 1))]
      refine mw_go mu_g386 (k := 1) (f1 := (18, [(3, .inl (nI (q + 1))), (0, .inr (.inr (some 129))), (1, .inl mk), (2, .inl tk)], [], H)) (C := []) rfl trivial ?_
      exact mw_sub (by simp) (iha (q + 1) ⟨(show bo (nb - 1) 0 ≤ (q + 1) ∧ (q + 1) ≤ nf from (by omega)), (show ∀ r, bo (nb - 1) 0 ≤ r → r < (q + 1) → ¬ (nm r = mk ∧ tm r = tk) from (fun r k1 k2 => by by_cases e0 : r = q; (rw [e0]; exact fun y => absurd y.1 h4); exact hno r k1 (by omega)))⟩ (by show nf - (q + 1) < nf - q; omega))
  · -- 63: not (nI q) < (nI nf)
    have nh2 : ¬ q < nf := fun z => h2 (show nI q < nI nf from (nI_ltI (by omega) (by omega)).mpr z)
    refine mw_go mu_g386 (k := 1) (f1 := (64, [(3, .inl (nI q)), (0, .inr (.inr (some 129))), (1, .inl mk), (2, .inl tk)], [.inl (-1 : Int32)], H)) (C := []) rfl trivial ?_
    exact mw_of (fun _ => mu_ret rfl trivial ⟨_, H, rfl, Or.inl ⟨rfl, rfl, fun r y => hno r y.1.1 (by have := y.1.2; omega) y.2⟩⟩)
theorem rl_facN (h : um m H) (e : ud m H = U) (hF : FMS U nf nm tm nb bo) (hno : ∀ q, ¬ KNF nf nm tm (bo (nb - 1) 0) mk tk q) : mu_TI (mu_D (d + 2)) 386 [.inr (.inr (some 129)), .inl mk, .inl tk] H (fun x H1 => x = -1 ∧ H1 = H) :=
  (rl_facof h e hF).imp (fun x H1 q => q.elim (fun y => ⟨y.2.1, y.1⟩) (fun ⟨r, y⟩ => absurd y.2.2 (hno r)))
theorem rl_facK (h : um m H) (e : ud m H = U) (hF : FMS U nf nm tm nb bo) {qk : Nat} (hk : KNF nf nm tm (bo (nb - 1) 0) mk tk qk) : mu_TI (mu_D (d + 2)) 386 [.inr (.inr (some 129)), .inl mk, .inl tk] H (fun x H1 => ∃ q, q < 67108864 ∧ x = nI q ∧ H1 = H) :=
  (rl_facof h e hF).imp (fun x H1 q => q.elim (fun y => absurd hk (y.2.2 qk)) (fun ⟨r, y⟩ => ⟨r, by have := y.2.2.1.2; have := hF.1.2; omega, y.2.1, y.1⟩))
/-- PathProver$Relation.fits(III)Z -/
abbrev mu_m301 : ev_M := (8, (some .boolean), [], ev_b301)
theorem mu_g301 : mu_good mu_m301 := mu_goodk ev_k301
theorem rl_fits (h : um m H) (e : ud m H = U) (hS : spx m U P f) (hF : FMS U nf nm tm nb bo) (hou : U.2.1 129 5 = nI ou) (hob : ou ≤ 65536) (hsf : U.2.1 113 7 = nI sf) (hus : U.2.1 113 1 = nI us) (hsu : sf ≤ us) (hub : us ≤ 1507328) (hsp2 : sp ≤ 16777216) : mu_TI (mu_D (d + 3)) 301 [.inr (.inr (some 129)), .inl mk, .inl tk, .inl (nI sp)] H (fun x H1 => H1 = H ∧ (x = 0 ∨ (x = 1 ∧ (((∀ q, ¬ KNF nf nm tm (bo (nb - 1) 0) mk tk q) ∧ ou + pm mk f P ≤ 32768) ∨ ∃ q, KNF nf nm tm (bo (nb - 1) 0) mk tk q) ∧ us - sf + pm mk f P * (sp + 1) ≤ 65536))) := by
  obtain ⟨⟨s4, s10, s11, s12⟩, hk5, ⟨g8, g8b, g18, g18b⟩, ⟨gP, gpd, gsm⟩, hsp, hmo⟩ := (show spx m U P f from hS)
  have hpm := pm_le (mk := mk) (f := f) (n := P) (fun k hk => Nat.le_trans (by decide) (hk5 k hk).2.2.2)
  refine mu_meth (M := mu_m301) rfl rfl ?_
  refine mw_ht (mu_fn_of (show [0, 1, 2, 3].Nodup by decide)) ?_
  refine mw_go mu_g301 (k := 2) (f1 := (4, [(0, .inr (.inr (some 129))), (1, .inl mk), (2, .inl tk), (3, .inl (nI sp))], [.inr (.inr (mu_r H 129 0))], H)) (C := [mu_is H (some 129) 9]) rfl (show mu_is H (some 129) 9 from (h.1.1.is rfl)) ?_
  rw [(h.1.1.r (p := 129) (j := 0) (q := 99) rfl)]
  refine mw_go mu_g301 (k := 1) (f1 := (5, [(0, .inr (.inr (some 129))), (1, .inl mk), (2, .inl tk), (3, .inl (nI sp))], [.inl mk, .inr (.inr (some 99))], H)) (C := []) rfl trivial ?_
  refine mw_cIe (fun _ => rfl) (show mu_is H (some 99) 13 from (h.1.1.is rfl)) (sp_over (d := (d + 1)) (mk := mk) h e hS) ?_
  refine mw_go mu_g301 (k := 5) (f1 := (14, [(4, .inr (.inl ((nI (pm mk f P)).toInt64))), (0, .inr (.inr (some 129))), (1, .inl mk), (2, .inl tk), (3, .inl (nI sp))], [.inl tk, .inl mk, .inr (.inr (some 129))], H)) (C := []) rfl trivial ?_
  refine mw_cI (fun _ => rfl) (show mu_is H (some 129) 9 from (h.1.1.is rfl)) (rl_facof (d := d) (mk := mk) (tk := tk) h e hF) (fun x2 H2 q2 => ?_)
  rcases q2 with ⟨hQe, hx1, hno⟩ | ⟨qk, hQe, hx1, hqk⟩
  · -- (-1 : Int32)
    rw [hQe, hx1]
    refine mw_if (P := (-1 : Int32) < 0) (a := 20) (b := 25) (fun _ => rfl) trivial (fun h3 => ?_) (fun h3 => absurd (by decide) h3)
    refine mw_go mu_g301 (k := 5) (f1 := (32, [(6, .inr (.inl ((nI (pm mk f P)).toInt64))), (4, .inr (.inl ((nI (pm mk f P)).toInt64))), (0, .inr (.inr (some 129))), (1, .inl mk), (2, .inl tk), (3, .inl (nI sp))], [.inl (mu_i H 129 5)], H)) (C := [mu_is H (some 129) 9]) rfl (show mu_is H (some 129) 9 from (h.1.1.is rfl)) ?_
    rw [(show mu_i H 129 5 = (nI ou) from (ud_i (U := U) (m := m) (P := 129) (j := 5) e rfl).trans hou)]
    refine mw_go mu_g301 (k := 5) (f1 := (40, [(6, .inr (.inl ((nI (pm mk f P)).toInt64))), (4, .inr (.inl ((nI (pm mk f P)).toInt64))), (0, .inr (.inr (some 129))), (1, .inl mk), (2, .inl tk), (3, .inl (nI sp))], [.inl (lg_cmp (((nI ou).toInt64) + ((nI (pm mk f P)).toInt64)) (32768 : Int64))], H)) (C := []) rfl trivial ?_
    refine mw_if (P := 0 < (lg_cmp (((nI ou).toInt64) + ((nI (pm mk f P)).toInt64)) (32768 : Int64))) (a := 84) (b := 43) (fun _ => rfl) trivial (fun h4 => ?_) (fun h4 => ?_)
    · -- 84: 0 < (lg_cmp (((nI ou).toInt64) + ((nI (pm mk f P)).toInt64)) (32768 : Int64))
      refine mw_go mu_g301 (k := 1) (f1 := (85, [(6, .inr (.inl ((nI (pm mk f P)).toInt64))), (4, .inr (.inl ((nI (pm mk f P)).toInt64))), (0, .inr (.inr (some 129))), (1, .inl mk), (2, .inl tk), (3, .inl (nI sp))], [.inl (0 : Int32)], H)) (C := []) rfl trivial ?_
      exact mw_of (fun _ => mu_ret rfl (Or.inl rfl) ⟨_, H, rfl, rfl, Or.inl rfl⟩)
    · -- 43: not 0 < (lg_cmp (((nI ou).toInt64) + ((nI (pm mk f P)).toInt64)) (32768 : Int64))
      refine mw_go mu_g301 (k := 2) (f1 := (47, [(6, .inr (.inl ((nI (pm mk f P)).toInt64))), (4, .inr (.inl ((nI (pm mk f P)).toInt64))), (0, .inr (.inr (some 129))), (1, .inl mk), (2, .inl tk), (3, .inl (nI sp))], [.inr (.inr (mu_r H 129 0))], H)) (C := [mu_is H (some 129) 9]) rfl (show mu_is H (some 129) 9 from (h.1.1.is rfl)) ?_
      rw [(h.1.1.r (p := 129) (j := 0) (q := 99) rfl)]
      refine mw_go mu_g301 (k := 1) (f1 := (50, [(6, .inr (.inl ((nI (pm mk f P)).toInt64))), (4, .inr (.inl ((nI (pm mk f P)).toInt64))), (0, .inr (.inr (some 129))), (1, .inl mk), (2, .inl tk), (3, .inl (nI sp))], [.inr (.inr (mu_r H 99 2))], H)) (C := [mu_is H (some 99) 13]) rfl (show mu_is H (some 99) 13 from (h.1.1.is rfl)) ?_
      rw [(h.1.1.r (p := 99) (j := 2) (q := 113) rfl)]
      refine mw_go mu_g301 (k := 1) (f1 := (53, [(6, .inr (.inl ((nI (pm mk f P)).toInt64))), (4, .inr (.inl ((nI (pm mk f P)).toInt64))), (0, .inr (.inr (some 129))), (1, .inl mk), (2, .inl tk), (3, .inl (nI sp))], [.inl (mu_i H 113 1)], H)) (C := [mu_is H (some 113) 11]) rfl (show mu_is H (some 113) 11 from (h.1.1.is rfl)) ?_
      rw [(show mu_i H 113 1 = (nI us) from (ud_i (U := U) (m := m) (P := 113) (j := 1) e rfl).trans hus)]
      refine mw_go mu_g301 (k := 2) (f1 := (57, [(6, .inr (.inl ((nI (pm mk f P)).toInt64))), (4, .inr (.inl ((nI (pm mk f P)).toInt64))), (0, .inr (.inr (some 129))), (1, .inl mk), (2, .inl tk), (3, .inl (nI sp))], [.inr (.inr (mu_r H 129 0)), .inl (nI us)], H)) (C := [mu_is H (some 129) 9]) rfl (show mu_is H (some 129) 9 from (h.1.1.is rfl)) ?_
      rw [(h.1.1.r (p := 129) (j := 0) (q := 99) rfl)]
      refine mw_go mu_g301 (k := 1) (f1 := (60, [(6, .inr (.inl ((nI (pm mk f P)).toInt64))), (4, .inr (.inl ((nI (pm mk f P)).toInt64))), (0, .inr (.inr (some 129))), (1, .inl mk), (2, .inl tk), (3, .inl (nI sp))], [.inr (.inr (mu_r H 99 2)), .inl (nI us)], H)) (C := [mu_is H (some 99) 13]) rfl (show mu_is H (some 99) 13 from (h.1.1.is rfl)) ?_
      rw [(h.1.1.r (p := 99) (j := 2) (q := 113) rfl)]
      refine mw_go mu_g301 (k := 1) (f1 := (63, [(6, .inr (.inl ((nI (pm mk f P)).toInt64))), (4, .inr (.inl ((nI (pm mk f P)).toInt64))), (0, .inr (.inr (some 129))), (1, .inl mk), (2, .inl tk), (3, .inl (nI sp))], [.inl (mu_i H 113 7), .inl (nI us)], H)) (C := [mu_is H (some 113) 11]) rfl (show mu_is H (some 113) 11 from (h.1.1.is rfl)) ?_
      rw [(show mu_i H 113 7 = (nI sf) from (ud_i (U := U) (m := m) (P := 113) (j := 7) e rfl).trans hsf)]
      refine mw_go mu_g301 (k := 1) (f1 := (64, [(6, .inr (.inl ((nI (pm mk f P)).toInt64))), (4, .inr (.inl ((nI (pm mk f P)).toInt64))), (0, .inr (.inr (some 129))), (1, .inl mk), (2, .inl tk), (3, .inl (nI sp))], [.inl ((nI us) - (nI sf))], H)) (C := []) rfl trivial ?_
      rw [(show ((nI us) - (nI sf)) = (nI (us - sf)) from (nI_sub (a := us) (b := sf) (by omega)))]
      refine mw_go mu_g301 (k := 5) (f1 := (70, [(6, .inr (.inl ((nI (pm mk f P)).toInt64))), (4, .inr (.inl ((nI (pm mk f P)).toInt64))), (0, .inr (.inr (some 129))), (1, .inl mk), (2, .inl tk), (3, .inl (nI sp))], [.inl ((nI sp) + (1 : Int32)), .inr (.inl ((nI (pm mk f P)).toInt64)), .inr (.inl ((nI (us - sf)).toInt64))], H)) (C := []) rfl trivial ?_
      rw [(show ((nI sp) + (1 : Int32)) = (nI (sp + 1)) from (nI_add sp 1))]
      refine mw_go mu_g301 (k := 5) (f1 := (77, [(6, .inr (.inl ((nI (pm mk f P)).toInt64))), (4, .inr (.inl ((nI (pm mk f P)).toInt64))), (0, .inr (.inr (some 129))), (1, .inl mk), (2, .inl tk), (3, .inl (nI sp))], [.inl (lg_cmp (((nI (us - sf)).toInt64) + (((nI (pm mk f P)).toInt64) * ((nI (sp + 1)).toInt64))) (65536 : Int64))], H)) (C := []) rfl trivial ?_
      refine mw_if (P := 0 < (lg_cmp (((nI (us - sf)).toInt64) + (((nI (pm mk f P)).toInt64) * ((nI (sp + 1)).toInt64))) (65536 : Int64))) (a := 84) (b := 80) (fun _ => rfl) trivial (fun h5 => ?_) (fun h5 => ?_)
      · -- 84: 0 < (lg_cmp (((nI (us - sf)).toInt64) + (((nI (pm mk f P)).toInt64) * ((nI (sp + 1)).toInt64))) (65536 : Int64))
        refine mw_go mu_g301 (k := 1) (f1 := (85, [(6, .inr (.inl ((nI (pm mk f P)).toInt64))), (4, .inr (.inl ((nI (pm mk f P)).toInt64))), (0, .inr (.inr (some 129))), (1, .inl mk), (2, .inl tk), (3, .inl (nI sp))], [.inl (0 : Int32)], H)) (C := []) rfl trivial ?_
        exact mw_of (fun _ => mu_ret rfl (Or.inl rfl) ⟨_, H, rfl, rfl, Or.inl rfl⟩)
      · -- 80: not 0 < (lg_cmp (((nI (us - sf)).toInt64) + (((nI (pm mk f P)).toInt64) * ((nI (sp + 1)).toInt64))) (65536 : Int64))
        refine mw_go mu_g301 (k := 2) (f1 := (85, [(6, .inr (.inl ((nI (pm mk f P)).toInt64))), (4, .inr (.inl ((nI (pm mk f P)).toInt64))), (0, .inr (.inr (some 129))), (1, .inl mk), (2, .inl tk), (3, .inl (nI sp))], [.inl (1 : Int32)], H)) (C := []) rfl trivial ?_
        exact mw_of (fun _ => mu_ret rfl (Or.inr rfl) ⟨_, H, rfl, rfl, Or.inr ⟨rfl, (by have y := fits_no (by omega) (by omega) (by omega) (by omega) (by omega) h4 h5; exact ⟨Or.inl ⟨hno, y.1⟩, y.2⟩)⟩⟩)
  · -- (nI qk)
    rw [hQe, hx1]
    have hqk2 := hqk.1.2
    have hnfb := hF.1.2
    refine mw_if (P := (nI qk) < 0) (a := 20) (b := 25) (fun _ => rfl) trivial (fun h6 => absurd h6 (nI_pos (by omega))) (fun h6 => ?_)
    refine mw_go mu_g301 (k := 4) (f1 := (32, [(6, .inr (.inl (0 : Int64))), (4, .inr (.inl ((nI (pm mk f P)).toInt64))), (0, .inr (.inr (some 129))), (1, .inl mk), (2, .inl tk), (3, .inl (nI sp))], [.inl (mu_i H 129 5)], H)) (C := [mu_is H (some 129) 9]) rfl (show mu_is H (some 129) 9 from (h.1.1.is rfl)) ?_
    rw [(show mu_i H 129 5 = (nI ou) from (ud_i (U := U) (m := m) (P := 129) (j := 5) e rfl).trans hou)]
    refine mw_go mu_g301 (k := 5) (f1 := (40, [(6, .inr (.inl (0 : Int64))), (4, .inr (.inl ((nI (pm mk f P)).toInt64))), (0, .inr (.inr (some 129))), (1, .inl mk), (2, .inl tk), (3, .inl (nI sp))], [.inl (lg_cmp (((nI ou).toInt64) + (0 : Int64)) (32768 : Int64))], H)) (C := []) rfl trivial ?_
    refine mw_if (P := 0 < (lg_cmp (((nI ou).toInt64) + (0 : Int64)) (32768 : Int64))) (a := 84) (b := 43) (fun _ => rfl) trivial (fun h7 => ?_) (fun h7 => ?_)
    · -- 84: 0 < (lg_cmp (((nI ou).toInt64) + (0 : Int64)) (32768 : Int64))
      refine mw_go mu_g301 (k := 1) (f1 := (85, [(6, .inr (.inl (0 : Int64))), (4, .inr (.inl ((nI (pm mk f P)).toInt64))), (0, .inr (.inr (some 129))), (1, .inl mk), (2, .inl tk), (3, .inl (nI sp))], [.inl (0 : Int32)], H)) (C := []) rfl trivial ?_
      exact mw_of (fun _ => mu_ret rfl (Or.inl rfl) ⟨_, H, rfl, rfl, Or.inl rfl⟩)
    · -- 43: not 0 < (lg_cmp (((nI ou).toInt64) + (0 : Int64)) (32768 : Int64))
      refine mw_go mu_g301 (k := 2) (f1 := (47, [(6, .inr (.inl (0 : Int64))), (4, .inr (.inl ((nI (pm mk f P)).toInt64))), (0, .inr (.inr (some 129))), (1, .inl mk), (2, .inl tk), (3, .inl (nI sp))], [.inr (.inr (mu_r H 129 0))], H)) (C := [mu_is H (some 129) 9]) rfl (show mu_is H (some 129) 9 from (h.1.1.is rfl)) ?_
      rw [(h.1.1.r (p := 129) (j := 0) (q := 99) rfl)]
      refine mw_go mu_g301 (k := 1) (f1 := (50, [(6, .inr (.inl (0 : Int64))), (4, .inr (.inl ((nI (pm mk f P)).toInt64))), (0, .inr (.inr (some 129))), (1, .inl mk), (2, .inl tk), (3, .inl (nI sp))], [.inr (.inr (mu_r H 99 2))], H)) (C := [mu_is H (some 99) 13]) rfl (show mu_is H (some 99) 13 from (h.1.1.is rfl)) ?_
      rw [(h.1.1.r (p := 99) (j := 2) (q := 113) rfl)]
      refine mw_go mu_g301 (k := 1) (f1 := (53, [(6, .inr (.inl (0 : Int64))), (4, .inr (.inl ((nI (pm mk f P)).toInt64))), (0, .inr (.inr (some 129))), (1, .inl mk), (2, .inl tk), (3, .inl (nI sp))], [.inl (mu_i H 113 1)], H)) (C := [mu_is H (some 113) 11]) rfl (show mu_is H (some 113) 11 from (h.1.1.is rfl)) ?_
      rw [(show mu_i H 113 1 = (nI us) from (ud_i (U := U) (m := m) (P := 113) (j := 1) e rfl).trans hus)]
      refine mw_go mu_g301 (k := 2) (f1 := (57, [(6, .inr (.inl (0 : Int64))), (4, .inr (.inl ((nI (pm mk f P)).toInt64))), (0, .inr (.inr (some 129))), (1, .inl mk), (2, .inl tk), (3, .inl (nI sp))], [.inr (.inr (mu_r H 129 0)), .inl (nI us)], H)) (C := [mu_is H (some 129) 9]) rfl (show mu_is H (some 129) 9 from (h.1.1.is rfl)) ?_
      rw [(h.1.1.r (p := 129) (j := 0) (q := 99) rfl)]
      refine mw_go mu_g301 (k := 1) (f1 := (60, [(6, .inr (.inl (0 : Int64))), (4, .inr (.inl ((nI (pm mk f P)).toInt64))), (0, .inr (.inr (some 129))), (1, .inl mk), (2, .inl tk), (3, .inl (nI sp))], [.inr (.inr (mu_r H 99 2)), .inl (nI us)], H)) (C := [mu_is H (some 99) 13]) rfl (show mu_is H (some 99) 13 from (h.1.1.is rfl)) ?_
      rw [(h.1.1.r (p := 99) (j := 2) (q := 113) rfl)]
      refine mw_go mu_g301 (k := 1) (f1 := (63, [(6, .inr (.inl (0 : Int64))), (4, .inr (.inl ((nI (pm mk f P)).toInt64))), (0, .inr (.inr (some 129))), (1, .inl mk), (2, .inl tk), (3, .inl (nI sp))], [.inl (mu_i H 113 7), .inl (nI us)], H)) (C := [mu_is H (some 113) 11]) rfl (show mu_is H (some 113) 11 from (h.1.1.is rfl)) ?_
      rw [(show mu_i H 113 7 = (nI sf) from (ud_i (U := U) (m := m) (P := 113) (j := 7) e rfl).trans hsf)]
      refine mw_go mu_g301 (k := 1) (f1 := (64, [(6, .inr (.inl (0 : Int64))), (4, .inr (.inl ((nI (pm mk f P)).toInt64))), (0, .inr (.inr (some 129))), (1, .inl mk), (2, .inl tk), (3, .inl (nI sp))], [.inl ((nI us) - (nI sf))], H)) (C := []) rfl trivial ?_
      rw [(show ((nI us) - (nI sf)) = (nI (us - sf)) from (nI_sub (a := us) (b := sf) (by omega)))]
      refine mw_go mu_g301 (k := 5) (f1 := (70, [(6, .inr (.inl (0 : Int64))), (4, .inr (.inl ((nI (pm mk f P)).toInt64))), (0, .inr (.inr (some 129))), (1, .inl mk), (2, .inl tk), (3, .inl (nI sp))], [.inl ((nI sp) + (1 : Int32)), .inr (.inl ((nI (pm mk f P)).toInt64)), .inr (.inl ((nI (us - sf)).toInt64))], H)) (C := []) rfl trivial ?_
      rw [(show ((nI sp) + (1 : Int32)) = (nI (sp + 1)) from (nI_add sp 1))]
      refine mw_go mu_g301 (k := 5) (f1 := (77, [(6, .inr (.inl (0 : Int64))), (4, .inr (.inl ((nI (pm mk f P)).toInt64))), (0, .inr (.inr (some 129))), (1, .inl mk), (2, .inl tk), (3, .inl (nI sp))], [.inl (lg_cmp (((nI (us - sf)).toInt64) + (((nI (pm mk f P)).toInt64) * ((nI (sp + 1)).toInt64))) (65536 : Int64))], H)) (C := []) rfl trivial ?_
      refine mw_if (P := 0 < (lg_cmp (((nI (us - sf)).toInt64) + (((nI (pm mk f P)).toInt64) * ((nI (sp + 1)).toInt64))) (65536 : Int64))) (a := 84) (b := 80) (fun _ => rfl) trivial (fun h8 => ?_) (fun h8 => ?_)
      · -- 84: 0 < (lg_cmp (((nI (us - sf)).toInt64) + (((nI (pm mk f P)).toInt64) * ((nI (sp + 1)).toInt64))) (65536 : Int64))
        refine mw_go mu_g301 (k := 1) (f1 := (85, [(6, .inr (.inl (0 : Int64))), (4, .inr (.inl ((nI (pm mk f P)).toInt64))), (0, .inr (.inr (some 129))), (1, .inl mk), (2, .inl tk), (3, .inl (nI sp))], [.inl (0 : Int32)], H)) (C := []) rfl trivial ?_
        exact mw_of (fun _ => mu_ret rfl (Or.inl rfl) ⟨_, H, rfl, rfl, Or.inl rfl⟩)
      · -- 80: not 0 < (lg_cmp (((nI (us - sf)).toInt64) + (((nI (pm mk f P)).toInt64) * ((nI (sp + 1)).toInt64))) (65536 : Int64))
        refine mw_go mu_g301 (k := 2) (f1 := (85, [(6, .inr (.inl (0 : Int64))), (4, .inr (.inl ((nI (pm mk f P)).toInt64))), (0, .inr (.inr (some 129))), (1, .inl mk), (2, .inl tk), (3, .inl (nI sp))], [.inl (1 : Int32)], H)) (C := []) rfl trivial ?_
        exact mw_of (fun _ => mu_ret rfl (Or.inr rfl) ⟨_, H, rfl, rfl, Or.inr ⟨rfl, Or.inr ⟨qk, hqk⟩, fits_no2 (by omega) (by omega) (by omega) h8⟩⟩)
def F303 : Uf := ⟨[], [(129, 5)], [(129, 4)], [(129, 4)], [], false⟩
theorem rl_reserve (h : um m H) (e : ud m H = U) (ho : U.2.1 129 5 = nI ou) (hl : OLN (U.2.2.1 129 4).1) (hol : ou ≤ (U.2.2.1 129 4).1) (hm : ou + mn ≤ 32768) : mu_TI (mu_D (d + 3)) 303 [.inr (.inr (some 129)), .inl (nI mn)] H (fun x H1 => x = nI ou ∧ um m H1 ∧ ur m C H H1 ∧ uq F303 U (ud m H1) ∧ (ud m H1).2.1 129 5 = nI (ou + mn) ∧ ou + mn ≤ ((ud m H1).2.2.1 129 4).1 ∧ OLN ((ud m H1).2.2.1 129 4).1 ∧ ∀ j, j < ou → ((ud m H1).2.2.1 129 4).2 j = (U.2.2.1 129 4).2 j) := by
  obtain ⟨Lo, hLo⟩ : ∃ Lo, (U.2.2.1 129 4).1 = Lo := ⟨_, rfl⟩
  have hl0 : Lo = 64 ∨ Lo = 1024 ∨ Lo = 32768 := by rw [← hLo]; exact hl
  have hob : ou ≤ Lo := by rw [← hLo]; exact hol
  refine mu_meth (M := mu_m303) rfl rfl ?_
  refine mw_ht (mu_fn_of (show [0, 1].Nodup by decide)) ?_
  refine mw_go mu_g303 (k := 2) (f1 := (4, [(0, .inr (.inr (some 129))), (1, .inl (nI mn))], [.inl (mu_i H 129 5)], H)) (C := [mu_is H (some 129) 9]) rfl (show mu_is H (some 129) 9 from (h.1.1.is rfl)) ?_
  rw [(show mu_i H 129 5 = (nI ou) from (ud_i (U := U) (m := m) (P := 129) (j := 5) e rfl).trans ho)]
  refine mw_go mu_g303 (k := 4) (f1 := (10, [(2, .inl (nI ou)), (0, .inr (.inr (some 129))), (1, .inl (nI mn))], [.inl (mu_i H 129 5), .inr (.inr (some 129))], H)) (C := [mu_is H (some 129) 9]) rfl (show mu_is H (some 129) 9 from (h.1.1.is rfl)) ?_
  rw [(show mu_i H 129 5 = (nI ou) from (ud_i (U := U) (m := m) (P := 129) (j := 5) e rfl).trans ho)]
  refine mw_go mu_g303 (k := 2) (f1 := (12, [(2, .inl (nI ou)), (0, .inr (.inr (some 129))), (1, .inl (nI mn))], [.inl ((nI ou) + (nI mn)), .inr (.inr (some 129))], H)) (C := []) rfl trivial ?_
  rw [(show ((nI ou) + (nI mn)) = (nI (ou + mn)) from (nI_add ou mn))]
  refine mw_go mu_g303 (k := 1) (f1 := (15, [(2, .inl (nI ou)), (0, .inr (.inr (some 129))), (1, .inl (nI mn))], [], (mu_si H 129 5 (nI (ou + mn))))) (C := [mu_is H (some 129) 9]) rfl (show mu_is H (some 129) 9 from (h.1.1.is rfl)) ?_
  obtain ⟨u1, r1, d1⟩ : um m (mu_si H 129 5 (nI (ou + mn))) ∧ ur m C H (mu_si H 129 5 (nI (ou + mn))) ∧ ud m (mu_si H 129 5 (nI (ou + mn))) = (upI U 129 5 (nI (ou + mn))) := h.sI (C := C) e rfl
  generalize (mu_si H 129 5 (nI (ou + mn))) = Q1 at u1 r1 d1 ⊢
  have ht1 : ur m C H Q1 := (ur.refl m C H).trans r1
  refine mw_go mu_g303 (k := 2) (f1 := (19, [(2, .inl (nI ou)), (0, .inr (.inr (some 129))), (1, .inl (nI mn))], [.inl (mu_i Q1 129 5)], Q1)) (C := [mu_is Q1 (some 129) 9]) rfl (show mu_is Q1 (some 129) 9 from (u1.1.1.is rfl)) ?_
  rw [(show mu_i Q1 129 5 = (nI (ou + mn)) from (ud_i (U := (upI U 129 5 (nI (ou + mn)))) (m := m) (P := 129) (j := 5) d1 rfl))]
  refine mw_go mu_g303 (k := 2) (f1 := (23, [(2, .inl (nI ou)), (0, .inr (.inr (some 129))), (1, .inl (nI mn))], [.inr (.inr (mu_r Q1 129 4)), .inl (nI (ou + mn))], Q1)) (C := [mu_is Q1 (some 129) 9]) rfl (show mu_is Q1 (some 129) 9 from (u1.1.1.is rfl)) ?_
  rw [(show mu_r Q1 129 4 = (U.2.2.2.1 129 4) from (ud_q (U := (upI U 129 5 (nI (ou + mn)))) (m := m) (P := 129) (j := 4) d1 rfl))]
  refine mw_go mu_g303 (k := 1) (f1 := (24, [(2, .inl (nI ou)), (0, .inr (.inr (some 129))), (1, .inl (nI mn))], [.inl (Int32.ofNat (mu_n Q1 (mu_p (U.2.2.2.1 129 4)))), .inl (nI (ou + mn))], Q1)) (C := [mu_isr Q1 (U.2.2.2.1 129 4) (mu_k Q1 (mu_p (U.2.2.2.1 129 4))), 100 ≤ mu_k Q1 (mu_p (U.2.2.2.1 129 4))]) rfl (show (mu_isr Q1 (U.2.2.2.1 129 4) (mu_k Q1 (mu_p (U.2.2.2.1 129 4)))) ∧ (100 ≤ mu_k Q1 (mu_p (U.2.2.2.1 129 4))) from ⟨(by have z := (u1.iA d1 rfl rfl (show (upI U 129 5 (nI (ou + mn))).2.2.2.1 129 4 = (U.2.2.2.1 129 4) from rfl)); rw [z.2.2]; exact z.r), (by have z := (u1.iA d1 rfl rfl (show (upI U 129 5 (nI (ou + mn))).2.2.2.1 129 4 = (U.2.2.2.1 129 4) from rfl)); rw [z.2.2]; decide)⟩) ?_
  rw [(show Int32.ofNat (mu_n Q1 (mu_p (U.2.2.2.1 129 4))) = nI Lo from congrArg Int32.ofNat (show mu_n Q1 (mu_p (U.2.2.2.1 129 4)) = Lo from (u1.nA d1 rfl rfl (show (upI U 129 5 (nI (ou + mn))).2.2.2.1 129 4 = (U.2.2.2.1 129 4) from rfl) (show ((upI U 129 5 (nI (ou + mn))).2.2.1 129 4).1 = Lo from hLo))))]
  refine mw_if (P := (nI Lo) < (nI (ou + mn))) (a := 27) (b := 63) (fun _ => rfl) trivial (fun h2 => ?_) (fun h2 => ?_)
  · -- 27: (nI Lo) < (nI (ou + mn))
    have nh2 : Lo < (ou + mn) := (nI_ltI (by omega) (by omega)).mp (show nI Lo < nI (ou + mn) from h2)
    refine mw_go mu_g303 (k := 3) (f1 := (32, [(2, .inl (nI ou)), (0, .inr (.inr (some 129))), (1, .inl (nI mn))], [.inr (.inr (mu_r Q1 129 4)), .inr (.inr (some 129))], Q1)) (C := [mu_is Q1 (some 129) 9]) rfl (show mu_is Q1 (some 129) 9 from (u1.1.1.is rfl)) ?_
    rw [(show mu_r Q1 129 4 = (U.2.2.2.1 129 4) from (ud_q (U := (upI U 129 5 (nI (ou + mn)))) (m := m) (P := 129) (j := 4) d1 rfl))]
    refine mw_go mu_g303 (k := 2) (f1 := (36, [(2, .inl (nI ou)), (0, .inr (.inr (some 129))), (1, .inl (nI mn))], [.inl (mu_i Q1 129 5), .inr (.inr (U.2.2.2.1 129 4)), .inr (.inr (some 129))], Q1)) (C := [mu_is Q1 (some 129) 9]) rfl (show mu_is Q1 (some 129) 9 from (u1.1.1.is rfl)) ?_
    rw [(show mu_i Q1 129 5 = (nI (ou + mn)) from (ud_i (U := (upI U 129 5 (nI (ou + mn)))) (m := m) (P := 129) (j := 5) d1 rfl))]
    refine mw_go mu_g303 (k := 1) (f1 := (39, [(2, .inl (nI ou)), (0, .inr (.inr (some 129))), (1, .inl (nI mn))], [.inl (1024 : Int32), .inl (nI (ou + mn)), .inr (.inr (U.2.2.2.1 129 4)), .inr (.inr (some 129))], Q1)) (C := []) rfl trivial ?_
    refine mw_if (P := (1024 : Int32) < (nI (ou + mn))) (a := 48) (b := 42) (fun _ => rfl) trivial (fun h3 => ?_) (fun h3 => ?_)
    · -- 48: (1024 : Int32) < (nI (ou + mn))
      have nh3 : 1024 < (ou + mn) := (nI_ltI (by omega) (by omega)).mp (show nI 1024 < nI (ou + mn) from h3)
      refine mw_go mu_g303 (k := 2) (f1 := (52, [(2, .inl (nI ou)), (0, .inr (.inr (some 129))), (1, .inl (nI mn))], [.inl (mu_i Q1 129 5), .inr (.inr (U.2.2.2.1 129 4)), .inr (.inr (some 129))], Q1)) (C := [mu_is Q1 (some 129) 9]) rfl (show mu_is Q1 (some 129) 9 from (u1.1.1.is rfl)) ?_
      rw [(show mu_i Q1 129 5 = (nI (ou + mn)) from (ud_i (U := (upI U 129 5 (nI (ou + mn)))) (m := m) (P := 129) (j := 5) d1 rfl))]
      refine mw_go mu_g303 (k := 1) (f1 := (54, [(2, .inl (nI ou)), (0, .inr (.inr (some 129))), (1, .inl (nI mn))], [.inl (32768 : Int32), .inl (nI (ou + mn)), .inr (.inr (U.2.2.2.1 129 4)), .inr (.inr (some 129))], Q1)) (C := []) rfl trivial ?_
      refine mw_cIe (fun _ => rfl) trivial (mu_max_ok (d := (d + 1)) (nI (ou + mn)) (32768 : Int32)) ?_
      rw [show (mu_max (nI (ou + mn)) (32768 : Int32)) = nI (max (ou + mn) 32768) from mu_max_n (a := ou + mn) (b := 32768) (by omega) (by omega)]
      refine mw_cA (fun _ => rfl) trivial (mu_copyOf_ok (d := d) (N := max (ou + mn) 32768) (u1.iA d1 rfl rfl (show (upI U 129 5 (nI (ou + mn))).2.2.2.1 129 4 = (U.2.2.2.1 129 4) from rfl)) (by rw [show mu_n Q1 (mu_p (U.2.2.2.1 129 4)) = Lo from (u1.nA d1 rfl rfl (show (upI U 129 5 (nI (ou + mn))).2.2.2.1 129 4 = (U.2.2.2.1 129 4) from rfl) (show ((upI U 129 5 (nI (ou + mn))).2.2.1 129 4).1 = Lo from hLo))]; omega) (by omega) u1.1.1.z) (fun x5 E5 q5 => ?_)
      rw [show mu_n Q1 (mu_p (U.2.2.2.1 129 4)) = Lo from (u1.nA d1 rfl rfl (show (upI U 129 5 (nI (ou + mn))).2.2.2.1 129 4 = (U.2.2.2.1 129 4) from rfl) (show ((upI U 129 5 (nI (ou + mn))).2.2.1 129 4).1 = Lo from hLo))] at q5
      obtain ⟨rfl, rfl⟩ := q5
      refine mw_go mu_g303 (k := 1) (f1 := (63, [(2, .inl (nI ou)), (0, .inr (.inr (some 129))), (1, .inl (nI mn))], [], (mu_sr (mu_cpi (mu_nw Q1 100 (max (ou + mn) 32768) (max (ou + mn) 32768)) (mu_p (U.2.2.2.1 129 4)) 0 (mu_z Q1) 0 Lo) 129 4 (some (mu_z Q1))))) (C := [mu_is (mu_cpi (mu_nw Q1 100 (max (ou + mn) 32768) (max (ou + mn) 32768)) (mu_p (U.2.2.2.1 129 4)) 0 (mu_z Q1) 0 Lo) (some 129) 9]) rfl (show mu_is (mu_cpi (mu_nw Q1 100 (max (ou + mn) 32768) (max (ou + mn) 32768)) (mu_p (U.2.2.2.1 129 4)) 0 (mu_z Q1) 0 Lo) (some 129) 9 from (mu_is_nw (k := 100) (len := max (ou + mn) 32768) (sl := max (ou + mn) 32768) (u1.1.1.is (p := 129) rfl))) ?_
      obtain ⟨u6, r6, d6⟩ : um m (mu_sr (mu_cpi (mu_nw Q1 100 (max (ou + mn) 32768) (max (ou + mn) 32768)) (mu_p (U.2.2.2.1 129 4)) 0 (mu_z Q1) 0 Lo) 129 4 (some (mu_z Q1))) ∧ ur m C Q1 (mu_sr (mu_cpi (mu_nw Q1 100 (max (ou + mn) 32768) (max (ou + mn) 32768)) (mu_p (U.2.2.2.1 129 4)) 0 (mu_z Q1) 0 Lo) 129 4 (some (mu_z Q1))) ∧ ud m (mu_sr (mu_cpi (mu_nw Q1 100 (max (ou + mn) 32768) (max (ou + mn) 32768)) (mu_p (U.2.2.2.1 129 4)) 0 (mu_z Q1) 0 Lo) 129 4 (some (mu_z Q1))) = (upF (upN (upI U 129 5 (nI (ou + mn))) 129 4 (max (ou + mn) 32768) (mu_z Q1)) 129 4 0 ((upI U 129 5 (nI (ou + mn))).2.2.1 129 4).2 Lo) := (by have z := u1.growA (C := C) (P := 129) (J := 4) (N := max (ou + mn) 32768) (n := Lo) d1 rfl rfl rfl (show Lo = ((upI U 129 5 (nI (ou + mn))).2.2.1 129 4).1 from hLo.symm) (by omega) (by omega); rw [show mu_r Q1 129 4 = (U.2.2.2.1 129 4) from (ud_q (U := (upI U 129 5 (nI (ou + mn)))) (m := m) (P := 129) (j := 4) d1 rfl)] at z; exact z)
      generalize (mu_sr (mu_cpi (mu_nw Q1 100 (max (ou + mn) 32768) (max (ou + mn) 32768)) (mu_p (U.2.2.2.1 129 4)) 0 (mu_z Q1) 0 Lo) 129 4 (some (mu_z Q1))) = Q6 at u6 r6 d6 ⊢
      have ht6 : ur m C H Q6 := ht1.trans r6
      refine mw_go mu_g303 (k := 1) (f1 := (64, [(2, .inl (nI ou)), (0, .inr (.inr (some 129))), (1, .inl (nI mn))], [.inl (nI ou)], Q6)) (C := []) rfl trivial ?_
      exact mw_of (fun _ => mu_ret rfl trivial ⟨_, Q6, rfl, rfl, u6, ht6, by rw [d6]; exact (((uq.refl F303 U).I rfl).N rfl rfl).F rfl, by rw [d6]; exact ⟨rfl, (by show ou + mn ≤ max (ou + mn) 32768; omega), (by show OLN (max (ou + mn) 32768); unfold OLN; omega), fun j hj => if_pos ⟨Nat.zero_le _, by omega⟩⟩⟩)
    · -- 42: not (1024 : Int32) < (nI (ou + mn))
      have nh3 : ¬ 1024 < (ou + mn) := fun z => h3 (show nI 1024 < nI (ou + mn) from (nI_ltI (by omega) (by omega)).mpr z)
      refine mw_go mu_g303 (k := 2) (f1 := (57, [(2, .inl (nI ou)), (0, .inr (.inr (some 129))), (1, .inl (nI mn))], [.inl (1024 : Int32), .inr (.inr (U.2.2.2.1 129 4)), .inr (.inr (some 129))], Q1)) (C := []) rfl trivial ?_
      refine mw_cA (fun _ => rfl) trivial (mu_copyOf_ok (d := d) (N := 1024) (u1.iA d1 rfl rfl (show (upI U 129 5 (nI (ou + mn))).2.2.2.1 129 4 = (U.2.2.2.1 129 4) from rfl)) (by rw [show mu_n Q1 (mu_p (U.2.2.2.1 129 4)) = Lo from (u1.nA d1 rfl rfl (show (upI U 129 5 (nI (ou + mn))).2.2.2.1 129 4 = (U.2.2.2.1 129 4) from rfl) (show ((upI U 129 5 (nI (ou + mn))).2.2.1 129 4).1 = Lo from hLo))]; omega) (by omega) u1.1.1.z) (fun x7 E7 q7 => ?_)
      rw [show mu_n Q1 (mu_p (U.2.2.2.1 129 4)) = Lo from (u1.nA d1 rfl rfl (show (upI U 129 5 (nI (ou + mn))).2.2.2.1 129 4 = (U.2.2.2.1 129 4) from rfl) (show ((upI U 129 5 (nI (ou + mn))).2.2.1 129 4).1 = Lo from hLo))] at q7
      obtain ⟨rfl, rfl⟩ := q7
      refine mw_go mu_g303 (k := 1) (f1 := (63, [(2, .inl (nI ou)), (0, .inr (.inr (some 129))), (1, .inl (nI mn))], [], (mu_sr (mu_cpi (mu_nw Q1 100 1024 1024) (mu_p (U.2.2.2.1 129 4)) 0 (mu_z Q1) 0 Lo) 129 4 (some (mu_z Q1))))) (C := [mu_is (mu_cpi (mu_nw Q1 100 1024 1024) (mu_p (U.2.2.2.1 129 4)) 0 (mu_z Q1) 0 Lo) (some 129) 9]) rfl (show mu_is (mu_cpi (mu_nw Q1 100 1024 1024) (mu_p (U.2.2.2.1 129 4)) 0 (mu_z Q1) 0 Lo) (some 129) 9 from (mu_is_nw (k := 100) (len := 1024) (sl := 1024) (u1.1.1.is (p := 129) rfl))) ?_
      obtain ⟨u8, r8, d8⟩ : um m (mu_sr (mu_cpi (mu_nw Q1 100 1024 1024) (mu_p (U.2.2.2.1 129 4)) 0 (mu_z Q1) 0 Lo) 129 4 (some (mu_z Q1))) ∧ ur m C Q1 (mu_sr (mu_cpi (mu_nw Q1 100 1024 1024) (mu_p (U.2.2.2.1 129 4)) 0 (mu_z Q1) 0 Lo) 129 4 (some (mu_z Q1))) ∧ ud m (mu_sr (mu_cpi (mu_nw Q1 100 1024 1024) (mu_p (U.2.2.2.1 129 4)) 0 (mu_z Q1) 0 Lo) 129 4 (some (mu_z Q1))) = (upF (upN (upI U 129 5 (nI (ou + mn))) 129 4 1024 (mu_z Q1)) 129 4 0 ((upI U 129 5 (nI (ou + mn))).2.2.1 129 4).2 Lo) := (by have z := u1.growA (C := C) (P := 129) (J := 4) (N := 1024) (n := Lo) d1 rfl rfl rfl (show Lo = ((upI U 129 5 (nI (ou + mn))).2.2.1 129 4).1 from hLo.symm) (by omega) (by omega); rw [show mu_r Q1 129 4 = (U.2.2.2.1 129 4) from (ud_q (U := (upI U 129 5 (nI (ou + mn)))) (m := m) (P := 129) (j := 4) d1 rfl)] at z; exact z)
      generalize (mu_sr (mu_cpi (mu_nw Q1 100 1024 1024) (mu_p (U.2.2.2.1 129 4)) 0 (mu_z Q1) 0 Lo) 129 4 (some (mu_z Q1))) = Q8 at u8 r8 d8 ⊢
      have ht8 : ur m C H Q8 := ht1.trans r8
      refine mw_go mu_g303 (k := 1) (f1 := (64, [(2, .inl (nI ou)), (0, .inr (.inr (some 129))), (1, .inl (nI mn))], [.inl (nI ou)], Q8)) (C := []) rfl trivial ?_
      exact mw_of (fun _ => mu_ret rfl trivial ⟨_, Q8, rfl, rfl, u8, ht8, by rw [d8]; exact (((uq.refl F303 U).I rfl).N rfl rfl).F rfl, by rw [d8]; exact ⟨rfl, (by show ou + mn ≤ 1024; omega), (by show OLN (1024); unfold OLN; omega), fun j hj => if_pos ⟨Nat.zero_le _, by omega⟩⟩⟩)
  · -- 63: not (nI Lo) < (nI (ou + mn))
    have nh2 : ¬ Lo < (ou + mn) := fun z => h2 (show nI Lo < nI (ou + mn) from (nI_ltI (by omega) (by omega)).mpr z)
    refine mw_go mu_g303 (k := 1) (f1 := (64, [(2, .inl (nI ou)), (0, .inr (.inr (some 129))), (1, .inl (nI mn))], [.inl (nI ou)], Q1)) (C := []) rfl trivial ?_
    exact mw_of (fun _ => mu_ret rfl trivial ⟨_, Q1, rfl, rfl, u1, ht1, by rw [d1]; exact (uq.refl F303 U).I rfl, by rw [d1]; exact ⟨rfl, (by show ou + mn ≤ (U.2.2.1 129 4).1; omega), hl, fun j hj => rfl⟩⟩)
def F306 : Uf := ⟨[], [], [(129, 14)], [], [], false⟩
/-- PathProver$Relation.hasRoom(II)Z -/
abbrev mu_m306 : ev_M := (3, (some .boolean), [], ev_b306)
theorem mu_g306 : mu_good mu_m306 := mu_goodk ev_k306
theorem rl_room (h : um m H) (e : ud m H = U) (hS : spx m U P f) (hf1 : ∀ k, 1 ≤ f k) (hk : k < P) (hF : FMS U nf nm tm nb bo) (hmk : U.2.1 100 4 = mk) (hou : U.2.1 129 5 = nI ou) (hob : ou ≤ 65536) (hsf : U.2.1 113 7 = nI sf) (hus : U.2.1 113 1 = nI us) (hsu : sf ≤ us) (hub : us ≤ 1507328) (hmo : mo ≤ 16777216) : mu_TI (mu_D (d + 4)) 306 [.inr (.inr (some 129)), .inl (nI k), .inl (nI mo)] H (fun x H1 => um m H1 ∧ ur m C H H1 ∧ uq F306 U (ud m H1) ∧ (x = 0 ∨ (x = 1 ∧ (((∀ q, ¬ KNF nf nm tm (bo (nb - 1) 0) mk ((1 : Int32) <<< (nI k &&& 31)) q) ∧ ou + pm mk f P ≤ 32768) ∨ ∃ q, KNF nf nm tm (bo (nb - 1) 0) mk ((1 : Int32) <<< (nI k &&& 31)) q) ∧ us - sf + pm mk f P * (min ((mo + 3) / 4) ((f k + 63) / 64) + 1) ≤ 65536))) := by
  obtain ⟨⟨s4, s10, s11, s12⟩, hk5, ⟨g8, g8b, g18, g18b⟩, ⟨gP, gpd, gsm⟩, hsp, hmo⟩ := (show spx m U P f from hS)
  have hfT := fk_pd hk gP hf1
  refine mu_meth (M := mu_m306) rfl rfl ?_
  refine mw_ht (mu_fn_of (show [0, 1, 2].Nodup by decide)) ?_
  refine mw_go mu_g306 (k := 2) (f1 := (4, [(0, .inr (.inr (some 129))), (1, .inl (nI k)), (2, .inl (nI mo))], [.inr (.inr (mu_r H 129 14))], H)) (C := [mu_is H (some 129) 9]) rfl (show mu_is H (some 129) 9 from (h.1.1.is rfl)) ?_
  rw [(h.1.1.r (p := 129) (j := 14) (q := 142) rfl)]
  refine mw_go mu_g306 (k := 3) (f1 := (9, [(0, .inr (.inr (some 129))), (1, .inl (nI k)), (2, .inl (nI mo))], [.inr (.inr (mu_r H 129 14)), .inl (nI k), .inr (.inr (some 142))], H)) (C := [mu_is H (some 129) 9]) rfl (show mu_is H (some 129) 9 from (h.1.1.is rfl)) ?_
  rw [(h.1.1.r (p := 129) (j := 14) (q := 142) rfl)]
  refine mw_go mu_g306 (k := 2) (f1 := (11, [(0, .inr (.inr (some 129))), (1, .inl (nI k)), (2, .inl (nI mo))], [.inl (mu_i H 142 (nI k).toNatClampNeg), .inl (nI k), .inr (.inr (some 142))], H)) (C := [mu_isr H (some 142) 100, vp_in (nI k) (mu_n H 142)]) rfl (show (mu_isr H (some 142) 100) ∧ (vp_in (nI k) (mu_n H 142)) from ⟨((h.iA e rfl rfl ((ud_q (m := m) (P := 129) (j := 14) e rfl).symm.trans (h.1.1.r (p := 129) (j := 14) (q := 142) rfl)))).r, (by rw [show mu_n H 142 = 28 from (h.1.1.a (p := 142) (x := (100, 28)) rfl).2]; exact vp_in_nI (n := k) (by omega) (by decide))⟩) ?_
  obtain ⟨y1, hy1⟩ : ∃ y, y = (mu_i H 142 (nI k).toNatClampNeg) := ⟨_, rfl⟩
  rw [← hy1]
  refine mw_go mu_g306 (k := 1) (f1 := (12, [(0, .inr (.inr (some 129))), (1, .inl (nI k)), (2, .inl (nI mo))], [.inl (nI mo), .inl y1, .inl (nI k), .inr (.inr (some 142))], H)) (C := []) rfl trivial ?_
  refine mw_cIe (fun _ => rfl) trivial (mu_min_ok (d := (d + 2)) y1 (nI mo)) ?_
  refine mw_go mu_g306 (k := 1) (f1 := (16, [(0, .inr (.inr (some 129))), (1, .inl (nI k)), (2, .inl (nI mo))], [], (mu_si H 142 (nI k).toNatClampNeg (mu_min y1 (nI mo))))) (C := [mu_is H (some 142) 100, vp_in (nI k) (mu_n H 142)]) rfl (show (mu_is H (some 142) 100) ∧ (vp_in (nI k) (mu_n H 142)) from ⟨(h.iA e rfl rfl ((ud_q (m := m) (P := 129) (j := 14) e rfl).symm.trans (h.1.1.r (p := 129) (j := 14) (q := 142) rfl))), (by rw [show mu_n H 142 = 28 from (h.1.1.a (p := 142) (x := (100, 28)) rfl).2]; exact vp_in_nI (n := k) (by omega) (by decide))⟩) ?_
  rw [(show (nI k).toNatClampNeg = k from nI_clamp (by omega))]
  obtain ⟨u3, r3, d3⟩ : um m (mu_si H 142 k (mu_min y1 (nI mo))) ∧ ur m C H (mu_si H 142 k (mu_min y1 (nI mo))) ∧ ud m (mu_si H 142 k (mu_min y1 (nI mo))) = (upA U 129 14 k (mu_min y1 (nI mo))) := h.sA (C := C) e rfl rfl ((ud_q (m := m) (P := 129) (j := 14) e rfl).symm.trans (h.1.1.r (p := 129) (j := 14) (q := 142) rfl))
  generalize (mu_si H 142 k (mu_min y1 (nI mo))) = Q3 at u3 r3 d3 ⊢
  have qf3 : uq F306 U (upA U 129 14 k (mu_min y1 (nI mo))) := (uq.refl F306 U).A rfl
  have ht3 : ur m C H Q3 := (ur.refl m C H).trans r3
  refine mw_go mu_g306 (k := 3) (f1 := (21, [(0, .inr (.inr (some 129))), (1, .inl (nI k)), (2, .inl (nI mo))], [.inr (.inr (mu_r Q3 129 0)), .inr (.inr (some 129))], Q3)) (C := [mu_is Q3 (some 129) 9]) rfl (show mu_is Q3 (some 129) 9 from (u3.1.1.is rfl)) ?_
  rw [(u3.1.1.r (p := 129) (j := 0) (q := 99) rfl)]
  refine mw_go mu_g306 (k := 1) (f1 := (24, [(0, .inr (.inr (some 129))), (1, .inl (nI k)), (2, .inl (nI mo))], [.inr (.inr (mu_r Q3 99 1)), .inr (.inr (some 129))], Q3)) (C := [mu_is Q3 (some 99) 13]) rfl (show mu_is Q3 (some 99) 13 from (u3.1.1.is rfl)) ?_
  rw [(u3.1.1.r (p := 99) (j := 1) (q := 100) rfl)]
  refine mw_go mu_g306 (k := 1) (f1 := (27, [(0, .inr (.inr (some 129))), (1, .inl (nI k)), (2, .inl (nI mo))], [.inl (mu_i Q3 100 4), .inr (.inr (some 129))], Q3)) (C := [mu_is Q3 (some 100) 5]) rfl (show mu_is Q3 (some 100) 5 from (u3.1.1.is rfl)) ?_
  rw [(show mu_i Q3 100 4 = mk from (ud_i (U := (upA U 129 14 k (mu_min y1 (nI mo)))) (m := m) (P := 100) (j := 4) d3 rfl).trans hmk)]
  refine mw_go mu_g306 (k := 6) (f1 := (33, [(0, .inr (.inr (some 129))), (1, .inl (nI k)), (2, .inl (nI mo))], [.inl ((nI mo) + (3 : Int32)), .inl ((1 : Int32) <<< ((nI k) &&& 31)), .inl mk, .inr (.inr (some 129))], Q3)) (C := []) rfl trivial ?_
  rw [(show ((nI mo) + (3 : Int32)) = (nI (mo + 3)) from (nI_add mo 3))]
  refine mw_go mu_g306 (k := 2) (f1 := (35, [(0, .inr (.inr (some 129))), (1, .inl (nI k)), (2, .inl (nI mo))], [.inl ((nI (mo + 3)) >>> ((2 : Int32) &&& 31)), .inl ((1 : Int32) <<< ((nI k) &&& 31)), .inl mk, .inr (.inr (some 129))], Q3)) (C := []) rfl trivial ?_
  rw [(show ((nI (mo + 3)) >>> ((2 : Int32) &&& 31)) = (nI ((mo + 3) / 4)) from (nI_shr2 (a := mo + 3) (by omega)))]
  refine mw_go mu_g306 (k := 2) (f1 := (39, [(0, .inr (.inr (some 129))), (1, .inl (nI k)), (2, .inl (nI mo))], [.inr (.inr (mu_r Q3 129 0)), .inl (nI ((mo + 3) / 4)), .inl ((1 : Int32) <<< ((nI k) &&& 31)), .inl mk, .inr (.inr (some 129))], Q3)) (C := [mu_is Q3 (some 129) 9]) rfl (show mu_is Q3 (some 129) 9 from (u3.1.1.is rfl)) ?_
  rw [(u3.1.1.r (p := 129) (j := 0) (q := 99) rfl)]
  refine mw_go mu_g306 (k := 1) (f1 := (42, [(0, .inr (.inr (some 129))), (1, .inl (nI k)), (2, .inl (nI mo))], [.inr (.inr (mu_r Q3 99 5)), .inl (nI ((mo + 3) / 4)), .inl ((1 : Int32) <<< ((nI k) &&& 31)), .inl mk, .inr (.inr (some 129))], Q3)) (C := [mu_is Q3 (some 99) 13]) rfl (show mu_is Q3 (some 99) 13 from (u3.1.1.is rfl)) ?_
  rw [(u3.1.1.r (p := 99) (j := 5) (q := 120) rfl)]
  refine mw_go mu_g306 (k := 2) (f1 := (44, [(0, .inr (.inr (some 129))), (1, .inl (nI k)), (2, .inl (nI mo))], [.inl (mu_i Q3 120 (nI k).toNatClampNeg), .inl (nI ((mo + 3) / 4)), .inl ((1 : Int32) <<< ((nI k) &&& 31)), .inl mk, .inr (.inr (some 129))], Q3)) (C := [mu_isr Q3 (some 120) 100, vp_in (nI k) (mu_n Q3 120)]) rfl (show (mu_isr Q3 (some 120) 100) ∧ (vp_in (nI k) (mu_n Q3 120)) from ⟨((u3.iA d3 rfl rfl ((ud_q (m := m) (P := 99) (j := 5) d3 rfl).symm.trans (u3.1.1.r (p := 99) (j := 5) (q := 120) rfl)))).r, (by rw [show mu_n Q3 120 = 14 from (u3.1.1.a (p := 120) (x := (100, 14)) rfl).2]; exact vp_in_nI (n := k) (by omega) (by decide))⟩) ?_
  rw [(show (mu_i Q3 120 (nI k).toNatClampNeg) = (nI (f k)) from ((congrArg (mu_i Q3 120) (show (nI k).toNatClampNeg = k from nI_clamp (by omega))).trans (u3.gA d3 rfl rfl ((ud_q (m := m) (P := 99) (j := 5) d3 rfl).symm.trans (u3.1.1.r (p := 99) (j := 5) (q := 120) rfl)))).trans ((congrArg (fun z => z.2 k) (show (upA U 129 14 k (mu_min y1 (nI mo))).2.2.1 99 5 = (U.2.2.1 99 5) from rfl)).trans (hk5 k (by omega)).1))]
  refine mw_go mu_g306 (k := 2) (f1 := (47, [(0, .inr (.inr (some 129))), (1, .inl (nI k)), (2, .inl (nI mo))], [.inl ((nI (f k)) + (63 : Int32)), .inl (nI ((mo + 3) / 4)), .inl ((1 : Int32) <<< ((nI k) &&& 31)), .inl mk, .inr (.inr (some 129))], Q3)) (C := []) rfl trivial ?_
  rw [(show ((nI (f k)) + (63 : Int32)) = (nI ((f k) + 63)) from (nI_add (f k) 63))]
  refine mw_go mu_g306 (k := 2) (f1 := (50, [(0, .inr (.inr (some 129))), (1, .inl (nI k)), (2, .inl (nI mo))], [.inl ((nI ((f k) + 63)) >>> ((6 : Int32) &&& 31)), .inl (nI ((mo + 3) / 4)), .inl ((1 : Int32) <<< ((nI k) &&& 31)), .inl mk, .inr (.inr (some 129))], Q3)) (C := []) rfl trivial ?_
  rw [(show ((nI ((f k) + 63)) >>> ((6 : Int32) &&& 31)) = (nI (((f k) + 63) / 64)) from (nI_shr6 (a := (f k) + 63) (by omega)))]
  refine mw_cIe (fun _ => rfl) trivial (mu_min_ok (d := (d + 2)) (nI ((mo + 3) / 4)) (nI (((f k) + 63) / 64))) ?_
  rw [show (mu_min (nI ((mo + 3) / 4)) (nI (((f k) + 63) / 64))) = nI (min ((mo + 3) / 4) (((f k) + 63) / 64)) from mu_min_n (a := (mo + 3) / 4) (b := ((f k) + 63) / 64) (by omega) (by omega)]
  refine mw_cI (fun _ => rfl) (show mu_is Q3 (some 129) 9 from (u3.1.1.is rfl)) (rl_fits (d := d) (mk := mk) (tk := ((1 : Int32) <<< ((nI k) &&& 31))) (sf := sf) (us := us) (ou := ou) (sp := min ((mo + 3) / 4) (((f k) + 63) / 64)) u3 d3 (spx_keep hS (show ((upA U 129 14 k (mu_min y1 (nI mo))).2.1 99 4) = (U.2.1 99 4) from rfl) (show ((upA U 129 14 k (mu_min y1 (nI mo))).2.1 99 10) = (U.2.1 99 10) from rfl) (show ((upA U 129 14 k (mu_min y1 (nI mo))).2.1 99 11) = (U.2.1 99 11) from rfl) (show ((upA U 129 14 k (mu_min y1 (nI mo))).2.1 99 12) = (U.2.1 99 12) from rfl) (show ((upA U 129 14 k (mu_min y1 (nI mo))).2.2.1 99 5) = (U.2.2.1 99 5) from rfl) (show ((upA U 129 14 k (mu_min y1 (nI mo))).2.2.1 99 7) = (U.2.2.1 99 7) from rfl) (show ((upA U 129 14 k (mu_min y1 (nI mo))).2.2.1 99 6) = (U.2.2.1 99 6) from rfl) (show ((upA U 129 14 k (mu_min y1 (nI mo))).2.2.1 99 8).1 = (U.2.2.1 99 8).1 from rfl) (show ((upA U 129 14 k (mu_min y1 (nI mo))).2.2.1 99 18).1 = (U.2.2.1 99 18).1 from rfl) (show ((upA U 129 14 k (mu_min y1 (nI mo))).2.2.2.1 100 0) = (U.2.2.2.1 100 0) from rfl) (show ((upA U 129 14 k (mu_min y1 (nI mo))).2.2.2.1 99 0) = (U.2.2.2.1 99 0) from rfl)) (hF.eq (show ((upA U 129 14 k (mu_min y1 (nI mo))).1 24) = (U.1 24) from rfl) (show ((upA U 129 14 k (mu_min y1 (nI mo))).1 27) = (U.1 27) from rfl)) hou hob hsf hus hsu hub (by omega)) (fun x5 H5 q5 => ?_)
  obtain ⟨hHe, hFt⟩ := q5
  rw [hHe]
  exact mw_of (fun _ => mu_ret rfl (hFt.elim Or.inl (fun q => Or.inr q.1)) ⟨_, Q3, rfl, u3, ht3, (by rw [d3]; exact qf3), hFt⟩)
end Fits
theorem fsz_gap {Y : Ts} {a wd : Nat} : ∀ n, (∀ x, x < n → (oc Y (a + x) = 32 ∨ oc Y (a + x) = 33) → plen (oc Y (a + x)) (oa Y (a + x)) ≤ wd) → ∀ c, c < snz Y a n → fszU Y a n (c + 1) ≤ fszU Y a n c + wd
  | 0, _, c, hc => absurd hc (Nat.not_lt_zero c)
  | n + 1, h, c, hc => by
    have ih := fsz_gap (wd := wd) n (fun x hx => h x (by omega)) c
    have hn := h n (by omega)
    by_cases ho : oc Y (a + n) = 32 ∨ oc Y (a + n) = 33
    · have e1 : snz Y a (n + 1) = snz Y a n + 1 := if_pos ho
      rw [e1] at hc
      have e2 : fszU Y a (n + 1) c = fszU Y a n c := if_neg (fun z => by omega)
      rw [e2]
      by_cases hcn : c = snz Y a n
      · have e3 : fszU Y a (n + 1) (c + 1) = sfz Y a n + plen (oc Y (a + n)) (oa Y (a + n)) := if_pos ⟨ho, by omega⟩
        have e4 : fszU Y a n c = sfz Y a n := by rw [hcn]; exact fsz_top
        rw [e3, e4]
        have := hn ho
        omega
      · have e3 : fszU Y a (n + 1) (c + 1) = fszU Y a n (c + 1) := if_neg (fun z => by omega)
        rw [e3]
        exact ih (by omega)
    · have e1 : snz Y a (n + 1) = snz Y a n := if_neg ho
      rw [e1] at hc
      have e2 : fszU Y a (n + 1) c = fszU Y a n c := if_neg (fun z => ho z.1)
      have e3 : fszU Y a (n + 1) (c + 1) = fszU Y a n (c + 1) := if_neg (fun z => ho z.1)
      rw [e2, e3]
      exact ih hc
