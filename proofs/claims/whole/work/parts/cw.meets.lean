/-! THE STORE OF SETS: whether sets meet; the words that a set reaches -/
section Meets
variable {H : mu_H} {U : Ud} {m d id st x n y E p a b w t : Nat} {C : Nat → Nat} {fc L : Nat → Int64} {S : Nat → Bool} {u v : Int64} {B : Bool}
theorem mt_yes (h : ¬ lg_cmp (u &&& v) 0 = 0) : ∃ q, q < 64 ∧ btz u q = true ∧ btz v q = true := by
  obtain ⟨q, h1, h2, -⟩ := low_ex (fun z => h (lg_ne.mpr z))
  rw [btz_and, Bool.and_eq_true] at h2
  exact ⟨q, h1, h2⟩
theorem mt_no (h : lg_cmp (u &&& v) 0 = 0) (q : Nat) (h1 : btz v q = true) : btz u q = false := by
  have z := lg_ne.mp h
  have k : btz (u &&& v) q = false := by rw [z]; exact btz_0
  rw [btz_and, h1, Bool.and_true] at k
  exact k
theorem ite_noU (h : (if B = true then (1 : Int32) else 0) = 0) : B = false := by
  cases B
  · rfl
  · exact absurd h (by decide)
theorem ite_yes (h : ¬ (if B = true then (1 : Int32) else 0) = 0) : B = true := by
  cases B
  · exact absurd rfl h
  · rfl
/-- no number from a on up to b is in the bits -/
theorem rm_yes (hr : ∀ q, q < 64 → btz v q = (decide (a ≤ 64 * w + q) && decide (64 * w + q ≤ b))) (h : ¬ lg_cmp (L w &&& v) 0 = 0) : ∃ t, a ≤ t ∧ t ≤ b ∧ bts L t = true := by
  obtain ⟨q, h1, h2, h3⟩ := mt_yes h
  rw [hr q h1, Bool.and_eq_true, decide_eq_true_eq, decide_eq_true_eq] at h3
  refine ⟨64 * w + q, h3.1, h3.2, ?_⟩
  unfold bts
  rw [show (64 * w + q) / 64 = w by omega, show (64 * w + q) % 64 = q by omega]
  exact h2
theorem rm_no (hB : ∀ t, a ≤ t → t ≤ b → t / 64 < w → bts L t = false) (hr : ∀ q, q < 64 → btz v q = (decide (a ≤ 64 * w + q) && decide (64 * w + q ≤ b))) (h : lg_cmp (L w &&& v) 0 = 0) (t : Nat) (h1 : a ≤ t) (h2 : t ≤ b) (h3 : t / 64 < w + 1) : bts L t = false := by
  by_cases z : t / 64 < w
  · exact hB t h1 h2 z
  · have e : w = t / 64 := by omega
    have k := hr (t % 64) (Nat.mod_lt _ (by decide))
    rw [show 64 * w + t % 64 = t by omega, decide_eq_true h1, decide_eq_true h2] at k
    have k2 := mt_no h (t % 64) k
    rw [e] at k2
    exact k2
theorem m2_yes (hz : ∀ x, S x = true ↔ x / 64 < n ∧ btz (fc (st % 8192 + 1 + x / 64)) (x % 64) = true) (hy : y < n) (h : ¬ lg_cmp (fc (st % 8192 + 1 + y) &&& L y) 0 = 0) : ∃ t, S t = true ∧ bts L t = true := by
  obtain ⟨q, h1, h2, h3⟩ := mt_yes h
  have e1 : (64 * y + q) / 64 = y := by omega
  have e2 : (64 * y + q) % 64 = q := by omega
  refine ⟨64 * y + q, (hz _).mpr ⟨by omega, by rw [e1, e2]; exact h2⟩, ?_⟩
  unfold bts
  rw [e1, e2]
  exact h3
theorem m2_no (hz : ∀ x, S x = true ↔ x / 64 < n ∧ btz (fc (st % 8192 + 1 + x / 64)) (x % 64) = true) (hN : ∀ t, t / 64 < y → S t = true → bts L t = false) (h : lg_cmp (fc (st % 8192 + 1 + y) &&& L y) 0 = 0) (t : Nat) (h1 : t / 64 < y + 1) (h2 : S t = true) : bts L t = false := by
  by_cases z : t / 64 < y
  · exact hN t z h2
  · have e : y = t / 64 := by omega
    rw [e] at h
    cases k : bts L t
    · rfl
    · have := mt_no h (t % 64) k
      rw [((hz t).mp h2).2] at this
      cases this
theorem m1_no (hN : ∀ i, i < y → ∀ t, nmzU fc st (E * i) ≤ t → t ≤ nmzU fc st (E * i + E - 1) → bts L t = false) (h : ∀ t, nmzU fc st (E * y) ≤ t → t ≤ nmzU fc st (E * y + E - 1) → bts L t = false) (i : Nat) (hi : i < y + 1) : ∀ t, nmzU fc st (E * i) ≤ t → t ≤ nmzU fc st (E * i + E - 1) → bts L t = false := by
  by_cases z : i = y
  · rw [z]; exact h
  · exact hN i (by omega)
theorem m0_no (h : bts L (nmzU fc st y) = false) (t : Nat) (h1 : nmzU fc st (1 * y) ≤ t) (h2 : t ≤ nmzU fc st (1 * y + 1 - 1)) : bts L t = false := by
  rw [Nat.one_mul] at h1 h2
  rw [Nat.add_sub_cancel] at h2
  rw [show t = nmzU fc st y by omega]
  exact h
theorem mend (hm : mrk fc st E n S) (hN : ∀ i, i < n → ∀ t, nmzU fc st (E * i) ≤ t → t ≤ nmzU fc st (E * i + E - 1) → bts L t = false) (t : Nat) (h : S t = true) : bts L t = false := by
  obtain ⟨i, a1, a2, a3⟩ := (hm.2 t).mp h
  exact hN i a1 t a2 a3
theorem fw_le (hm : mrk fc st E n S) (h : S t = true) : nmzU fc st 0 / 64 ≤ t / 64 := by
  obtain ⟨i, a1, a2, a3⟩ := (hm.2 t).mp h
  have k : nmzU fc st 0 ≤ nmzU fc st (E * i) := (hm.1 0 i (Nat.zero_le _) a1).1
  omega
theorem ew_lt (hm : mrk fc st E n S) (hp : E * (n - 1) + E - 1 = p) (h : S t = true) : t / 64 < nmzU fc st p / 64 + 1 := by
  obtain ⟨i, a1, a2, a3⟩ := (hm.2 t).mp h
  have k := (hm.1 i (n - 1) (by omega) (by omega)).2
  rw [hp] at k
  omega
/-- PathProver$Sets.runMeets(II[J)Z -/
abbrev mu_m243 : ev_M := (4, (some .boolean), [], ev_b243)
theorem mu_g243 : mu_good mu_m243 := mu_goodk ev_k243
theorem st_run (h : um m H) (e : ud m H = U) (hab : a ≤ b) (hb : b < 16384) : mu_TI (mu_D (d + 2)) 243 [.inl (nI a), .inl (nI b), .inr (.inr (some 152))] H (fun x H1 => (x = 1 ∧ (∃ t, a ≤ t ∧ t ≤ b ∧ bts (U.2.2.2.2.1 152) t = true) ∧ H1 = H) ∨ (x = 0 ∧ (∀ t, a ≤ t → t ≤ b → bts (U.2.2.2.2.1 152) t = false) ∧ H1 = H)) := by
  refine mu_meth (M := mu_m243) rfl rfl ?_
  refine mw_ht (mu_fn_of (show [0, 1, 2].Nodup by decide)) ?_
  refine mw_go mu_g243 (k := 3) (f1 := (4, [(0, .inl (nI a)), (1, .inl (nI b)), (2, .inr (.inr (some 152)))], [.inl ((nI a) >>> ((6 : Int32) &&& 31))], H)) (C := []) rfl trivial ?_
  rw [(show ((nI a) >>> ((6 : Int32) &&& 31)) = (nI (a / 64)) from (nI_shr6 (a := a) (by omega)))]
  refine mw_go mu_g243 (k := 1) (f1 := (5, [(3, .inl (nI (a / 64))), (0, .inl (nI a)), (1, .inl (nI b)), (2, .inr (.inr (some 152)))], [], H)) (C := []) rfl trivial ?_
  refine mw_sub (L' := [(3, .inl (nI (a / 64))), (0, .inl (nI a)), (1, .inl (nI b)), (2, .inr (.inr (some 152)))]) (by simp) ?_
  refine mw_down (α := Nat) (fun zs => (5, [(3, .inl (nI zs)), (0, .inl (nI a)), (1, .inl (nI b)), (2, .inr (.inr (some 152)))], [], H)) (fun zs => b / 64 + 1 - zs) (fun zs => (a / 64 ≤ zs ∧ zs ≤ b / 64 + 1) ∧ (∀ t, a ≤ t → t ≤ b → t / 64 < zs → bts (U.2.2.2.2.1 152) t = false)) (fun zs hza iha => ?_) (a / 64) ⟨(show a / 64 ≤ (a / 64) ∧ (a / 64) ≤ b / 64 + 1 from (by omega)), (show ∀ t, a ≤ t → t ≤ b → t / 64 < (a / 64) → bts (U.2.2.2.2.1 152) t = false from (fun t h1 _ h3 => absurd h3 (by omega)))⟩
  obtain ⟨w, rfl⟩ : ∃ y, y = zs := ⟨zs, rfl⟩
  obtain ⟨hw, hB⟩ := hza
  have hw : a / 64 ≤ w ∧ w ≤ b / 64 + 1 := hw
  have hB : ∀ t, a ≤ t → t ≤ b → t / 64 < w → bts (U.2.2.2.2.1 152) t = false := hB
  show mu_W _ _ (5, [(3, .inl (nI w)), (0, .inl (nI a)), (1, .inl (nI b)), (2, .inr (.inr (some 152)))], [], H) _
  refine mw_go mu_g243 (k := 4) (f1 := (10, [(3, .inl (nI w)), (0, .inl (nI a)), (1, .inl (nI b)), (2, .inr (.inr (some 152)))], [.inl ((nI b) >>> ((6 : Int32) &&& 31)), .inl (nI w)], H)) (C := []) rfl trivial ?_
  rw [(show ((nI b) >>> ((6 : Int32) &&& 31)) = (nI (b / 64)) from (nI_shr6 (a := b) (by omega)))]
  refine mw_if (P := (nI (b / 64)) < (nI w)) (a := 36) (b := 13) (fun _ => rfl) trivial (fun h1 => ?_) (fun h1 => ?_)
  · -- 36: (nI (b / 64)) < (nI w)
    have nh1 : (b / 64) < w := (nI_ltI (by omega) (by omega)).mp (show nI (b / 64) < nI w from h1)
    refine mw_go mu_g243 (k := 1) (f1 := (37, [(3, .inl (nI w)), (0, .inl (nI a)), (1, .inl (nI b)), (2, .inr (.inr (some 152)))], [.inl (0 : Int32)], H)) (C := []) rfl trivial ?_
    exact mw_of (fun _ => mu_ret rfl (Or.inl rfl) ⟨(0 : Int32), H, rfl, Or.inr ⟨rfl, (fun t h1 h2 => hB t h1 h2 (by omega)), rfl⟩⟩)
  · -- 13: not (nI (b / 64)) < (nI w)
    have nh1 : ¬ (b / 64) < w := fun z => h1 (show nI (b / 64) < nI w from (nI_ltI (by omega) (by omega)).mpr z)
    refine mw_go mu_g243 (k := 3) (f1 := (16, [(3, .inl (nI w)), (0, .inl (nI a)), (1, .inl (nI b)), (2, .inr (.inr (some 152)))], [.inr (.inl (mu_l H 152 (nI w).toNatClampNeg))], H)) (C := [mu_isr H (some 152) 102, vp_in (nI w) (mu_n H 152)]) rfl (show (mu_isr H (some 152) 102) ∧ (vp_in (nI w) (mu_n H 152)) from ⟨((h.1.1.a (p := 152) (x := (102, 256)) rfl).1).r, (by rw [show mu_n H 152 = 256 from (h.1.1.a (p := 152) (x := (102, 256)) rfl).2]; exact vp_in_nI (n := w) (by omega) (by decide))⟩) ?_
    rw [(show (mu_l H 152 (nI w).toNatClampNeg) = (U.2.2.2.2.1 152) w from (congrArg (mu_l H 152) (show (nI w).toNatClampNeg = w from nI_clamp (by omega))).trans ((ud_l (m := m) (p := 152) (i := w) e rfl).trans (congrFun (show U.2.2.2.2.1 152 = (U.2.2.2.2.1 152) from rfl) w)))]
    refine mw_go mu_g243 (k := 3) (f1 := (19, [(3, .inl (nI w)), (0, .inl (nI a)), (1, .inl (nI b)), (2, .inr (.inr (some 152)))], [.inl (nI b), .inl (nI a), .inl (nI w), .inr (.inl ((U.2.2.2.2.1 152) w))], H)) (C := []) rfl trivial ?_
    refine mw_cL (fun _ => rfl) trivial (rn_in (d := d) (w := w) (a := a) (b := b) h e (by omega) (by omega) (by omega) (by omega)) (fun x2 H2 q2 => ?_)
    obtain ⟨hr, hQe⟩ := q2
    rw [hQe]
    refine mw_go mu_g243 (k := 3) (f1 := (25, [(3, .inl (nI w)), (0, .inl (nI a)), (1, .inl (nI b)), (2, .inr (.inr (some 152)))], [.inl (lg_cmp (((U.2.2.2.2.1 152) w) &&& x2) (0 : Int64))], H)) (C := []) rfl trivial ?_
    refine mw_if (P := (lg_cmp (((U.2.2.2.2.1 152) w) &&& x2) (0 : Int64)) = 0) (a := 30) (b := 28) (fun _ => rfl) trivial (fun h3 => ?_) (fun h3 => ?_)
    · -- 30: (lg_cmp (((U.2.2.2.2.1 152) w) &&& x2) (0 : Int64)) = 0
      refine mw_go mu_g243 (k := 1) (f1 := (33, [(3, .inl ((nI w) + 1)), (0, .inl (nI a)), (1, .inl (nI b)), (2, .inr (.inr (some 152)))], [], H)) (C := []) rfl trivial ?_
      rw [(show ((nI w) + 1) = (nI (w + 1)) from (nI_add w 1))]
      refine mw_go mu_g243 (k := 1) (f1 := (5, [(3, .inl (nI (w + 1))), (0, .inl (nI a)), (1, .inl (nI b)), (2, .inr (.inr (some 152)))], [], H)) (C := []) rfl trivial ?_
      exact mw_sub (by simp) (iha (w + 1) ⟨(show a / 64 ≤ (w + 1) ∧ (w + 1) ≤ b / 64 + 1 from (by omega)), (show ∀ t, a ≤ t → t ≤ b → t / 64 < (w + 1) → bts (U.2.2.2.2.1 152) t = false from (rm_no (L := (U.2.2.2.2.1 152)) hB hr h3))⟩ (by show b / 64 + 1 - (w + 1) < b / 64 + 1 - w; omega))
    · -- 28: not (lg_cmp (((U.2.2.2.2.1 152) w) &&& x2) (0 : Int64)) = 0
      refine mw_go mu_g243 (k := 1) (f1 := (29, [(3, .inl (nI w)), (0, .inl (nI a)), (1, .inl (nI b)), (2, .inr (.inr (some 152)))], [.inl (1 : Int32)], H)) (C := []) rfl trivial ?_
      exact mw_of (fun _ => mu_ret rfl (Or.inr rfl) ⟨(1 : Int32), H, rfl, Or.inl ⟨rfl, rm_yes (L := (U.2.2.2.2.1 152)) hr h3, rfl⟩⟩)
/-- PathProver$Sets.meets(I[J)Z -/
abbrev mu_m241 : ev_M := (8, (some .boolean), [], ev_b241)
theorem mu_g241 : mu_good mu_m241 := mu_goodk ev_k241
theorem st_mts0 (h : um m H) (e : ud m H = U) (hs : sat U id st fc) (hz : stz fc st S) (hS : ∀ x, S x = true → x < 16384) (hf : hfm fc st = 0) : mu_TI (mu_D (d + 3)) 241 [.inr (.inr (some 113)), .inl (nI id), .inr (.inr (some 152))] H (fun x H1 => (x = 1 ∧ (∃ t, S t = true ∧ bts (U.2.2.2.2.1 152) t = true) ∧ H1 = H) ∨ (x = 0 ∧ (∀ t, S t = true → bts (U.2.2.2.2.1 152) t = false) ∧ H1 = H)) := by
  obtain ⟨⟨hi1, hi2⟩, hst, hst2, hch⟩ := (show sat U id st fc from hs)
  obtain ⟨hz1, hz2, hz3, hz4, hz5⟩ := hz
  obtain ⟨hm1, hm2, hm3⟩ := hz3 hf
  refine mu_meth (M := mu_m241) rfl rfl ?_
  refine mw_ht (mu_fn_of (show [0, 1, 2].Nodup by decide)) ?_
  refine mw_go mu_g241 (k := 2) (f1 := (2, [(0, .inr (.inr (some 113))), (1, .inl (nI id)), (2, .inr (.inr (some 152)))], [.inl (nI id), .inr (.inr (some 113))], H)) (C := []) rfl trivial ?_
  refine mw_cIe (fun _ => rfl) (show mu_is H (some 113) 11 from (h.1.1.is rfl)) (st_form (d := (d + 1)) h e hs) ?_
  rw [show nI (hfm fc st) = (0 : Int32) from congrArg nI hf]
  refine mw_go mu_g241 (k := 3) (f1 := (8, [(3, .inl (0 : Int32)), (0, .inr (.inr (some 113))), (1, .inl (nI id)), (2, .inr (.inr (some 152)))], [.inl (nI id), .inr (.inr (some 113))], H)) (C := []) rfl trivial ?_
  refine mw_cIe (fun _ => rfl) (show mu_is H (some 113) 11 from (h.1.1.is rfl)) (st_parts (d := (d + 1)) h e hs) ?_
  rw [show nI (hpt fc st) = nI (hsz fc st) from congrArg nI (by unfold hpt; rw [hf]; rfl)]
  have kl := hln_lt (fc := fc) (st := st)
  have kz := hsz_lt (fc := fc) (st := st)
  refine mw_go mu_g241 (k := 3) (f1 := (17, [(4, .inl (nI (hsz fc st))), (3, .inl (0 : Int32)), (0, .inr (.inr (some 113))), (1, .inl (nI id)), (2, .inr (.inr (some 152)))], [.inr (.inr (mu_r H 113 0))], H)) (C := [mu_is H (some 113) 11]) rfl (show mu_is H (some 113) 11 from (h.1.1.is rfl)) ?_
  rw [(h.1.1.r (p := 113) (j := 0) (q := 114) rfl)]
  refine mw_go mu_g241 (k := 2) (f1 := (21, [(4, .inl (nI (hsz fc st))), (3, .inl (0 : Int32)), (0, .inr (.inr (some 113))), (1, .inl (nI id)), (2, .inr (.inr (some 152)))], [.inr (.inr (mu_r H 113 3)), .inr (.inr (some 114))], H)) (C := [mu_is H (some 113) 11]) rfl (show mu_is H (some 113) 11 from (h.1.1.is rfl)) ?_
  rw [(show mu_r H 113 3 = (U.2.2.2.1 113 3) from (ud_q (U := U) (m := m) (P := 113) (j := 3) e rfl))]
  refine mw_go mu_g241 (k := 2) (f1 := (23, [(4, .inl (nI (hsz fc st))), (3, .inl (0 : Int32)), (0, .inr (.inr (some 113))), (1, .inl (nI id)), (2, .inr (.inr (some 152)))], [.inl (mu_i H (mu_p (U.2.2.2.1 113 3)) (nI id).toNatClampNeg), .inr (.inr (some 114))], H)) (C := [mu_isr H (U.2.2.2.1 113 3) 100, vp_in (nI id) (mu_n H (mu_p (U.2.2.2.1 113 3)))]) rfl (show (mu_isr H (U.2.2.2.1 113 3) 100) ∧ (vp_in (nI id) (mu_n H (mu_p (U.2.2.2.1 113 3)))) from ⟨((h.iA e rfl rfl (show U.2.2.2.1 113 3 = (U.2.2.2.1 113 3) from rfl))).r, (h.vA (i := id) e rfl rfl (show U.2.2.2.1 113 3 = (U.2.2.2.1 113 3) from rfl) (show (U.2.2.1 113 3).1 = (U.2.2.1 113 3).1 from rfl) (by omega) (by omega))⟩) ?_
  rw [(show (mu_i H (mu_p (U.2.2.2.1 113 3)) (nI id).toNatClampNeg) = (nI st) from ((congrArg (mu_i H (mu_p (U.2.2.2.1 113 3))) (show (nI id).toNatClampNeg = id from nI_clamp (by omega))).trans (h.gA e rfl rfl (show U.2.2.2.1 113 3 = (U.2.2.2.1 113 3) from rfl))).trans ((congrArg (fun z => z.2 id) (show U.2.2.1 113 3 = (U.2.2.1 113 3) from rfl)).trans hst))]
  refine mw_go mu_g241 (k := 2) (f1 := (27, [(4, .inl (nI (hsz fc st))), (3, .inl (0 : Int32)), (0, .inr (.inr (some 113))), (1, .inl (nI id)), (2, .inr (.inr (some 152)))], [.inl ((nI st) / (8192 : Int32)), .inr (.inr (some 114))], H)) (C := [¬ (8192 : Int32) = 0]) rfl (show ¬ (8192 : Int32) = 0 from (by decide)) ?_
  rw [(show ((nI st) / (8192 : Int32)) = (nI (st / 8192)) from (nI_div (a := st) (b := 8192) (by omega) (by omega)))]
  obtain ⟨cq3, ka3, kb3, kc3, kd3⟩ := um.gP h e (plp114 (show st / 8192 < 184 by omega)) (show U.2.2.2.2.2 114 (st / 8192) = some (8192, fc) from hch)
  refine mw_go mu_g241 (k := 1) (f1 := (28, [(4, .inl (nI (hsz fc st))), (3, .inl (0 : Int32)), (0, .inr (.inr (some 113))), (1, .inl (nI id)), (2, .inr (.inr (some 152)))], [.inr (.inr (mu_r H 114 (nI (st / 8192)).toNatClampNeg))], H)) (C := [mu_is H (some 114) (mu_k H 114), 103 ≤ mu_k H 114 ∧ mu_k H 114 ≤ 110 ∧ mu_k H 114 ≠ 108, vp_in (nI (st / 8192)) (mu_n H 114)]) rfl (show (mu_is H (some 114) (mu_k H 114)) ∧ (103 ≤ mu_k H 114 ∧ mu_k H 114 ≤ 110 ∧ mu_k H 114 ≠ 108) ∧ (vp_in (nI (st / 8192)) (mu_n H 114)) from ⟨(by have z := (h.1.1.a (p := 114) (x := (104, 184)) rfl).1; rw [show mu_k H 114 = 104 from z.2.2]; exact z), (by have z := (h.1.1.a (p := 114) (x := (104, 184)) rfl).1; rw [show mu_k H 114 = 104 from z.2.2]; decide), (by rw [show mu_n H 114 = 184 from (h.1.1.a (p := 114) (x := (104, 184)) rfl).2]; exact vp_in_nI (n := st / 8192) (by omega) (by decide))⟩) ?_
  rw [(show (mu_r H 114 (nI (st / 8192)).toNatClampNeg) = some cq3 from (congrArg (mu_r H 114) (show (nI (st / 8192)).toNatClampNeg = st / 8192 from nI_clamp (by omega))).trans ka3)]
  refine mw_go mu_g241 (k := 3) (f1 := (34, [(5, .inr (.inr (some cq3))), (4, .inl (nI (hsz fc st))), (3, .inl (0 : Int32)), (0, .inr (.inr (some 113))), (1, .inl (nI id)), (2, .inr (.inr (some 152)))], [.inr (.inr (mu_r H 113 3))], H)) (C := [mu_is H (some 113) 11]) rfl (show mu_is H (some 113) 11 from (h.1.1.is rfl)) ?_
  rw [(show mu_r H 113 3 = (U.2.2.2.1 113 3) from (ud_q (U := U) (m := m) (P := 113) (j := 3) e rfl))]
  refine mw_go mu_g241 (k := 2) (f1 := (36, [(5, .inr (.inr (some cq3))), (4, .inl (nI (hsz fc st))), (3, .inl (0 : Int32)), (0, .inr (.inr (some 113))), (1, .inl (nI id)), (2, .inr (.inr (some 152)))], [.inl (mu_i H (mu_p (U.2.2.2.1 113 3)) (nI id).toNatClampNeg)], H)) (C := [mu_isr H (U.2.2.2.1 113 3) 100, vp_in (nI id) (mu_n H (mu_p (U.2.2.2.1 113 3)))]) rfl (show (mu_isr H (U.2.2.2.1 113 3) 100) ∧ (vp_in (nI id) (mu_n H (mu_p (U.2.2.2.1 113 3)))) from ⟨((h.iA e rfl rfl (show U.2.2.2.1 113 3 = (U.2.2.2.1 113 3) from rfl))).r, (h.vA (i := id) e rfl rfl (show U.2.2.2.1 113 3 = (U.2.2.2.1 113 3) from rfl) (show (U.2.2.1 113 3).1 = (U.2.2.1 113 3).1 from rfl) (by omega) (by omega))⟩) ?_
  rw [(show (mu_i H (mu_p (U.2.2.2.1 113 3)) (nI id).toNatClampNeg) = (nI st) from ((congrArg (mu_i H (mu_p (U.2.2.2.1 113 3))) (show (nI id).toNatClampNeg = id from nI_clamp (by omega))).trans (h.gA e rfl rfl (show U.2.2.2.1 113 3 = (U.2.2.2.1 113 3) from rfl))).trans ((congrArg (fun z => z.2 id) (show U.2.2.1 113 3 = (U.2.2.1 113 3) from rfl)).trans hst))]
  refine mw_go mu_g241 (k := 2) (f1 := (40, [(5, .inr (.inr (some cq3))), (4, .inl (nI (hsz fc st))), (3, .inl (0 : Int32)), (0, .inr (.inr (some 113))), (1, .inl (nI id)), (2, .inr (.inr (some 152)))], [.inl ((nI st) - (nI st) / (8192 : Int32) * (8192 : Int32))], H)) (C := [¬ (8192 : Int32) = 0]) rfl (show ¬ (8192 : Int32) = 0 from (by decide)) ?_
  rw [(show ((nI st) - (nI st) / (8192 : Int32) * (8192 : Int32)) = (nI (st % 8192)) from (nI_mod (a := st) (b := 8192) (by omega) (by omega)))]
  refine mw_go mu_g241 (k := 2) (f1 := (42, [(5, .inr (.inr (some cq3))), (4, .inl (nI (hsz fc st))), (3, .inl (0 : Int32)), (0, .inr (.inr (some 113))), (1, .inl (nI id)), (2, .inr (.inr (some 152)))], [.inl ((nI (st % 8192)) + (1 : Int32))], H)) (C := []) rfl trivial ?_
  rw [(show ((nI (st % 8192)) + (1 : Int32)) = (nI ((st % 8192) + 1)) from (nI_add (st % 8192) 1))]
  refine mw_go mu_g241 (k := 3) (f1 := (47, [(7, .inl (0 : Int32)), (6, .inl (nI ((st % 8192) + 1))), (5, .inr (.inr (some cq3))), (4, .inl (nI (hsz fc st))), (3, .inl (0 : Int32)), (0, .inr (.inr (some 113))), (1, .inl (nI id)), (2, .inr (.inr (some 152)))], [], H)) (C := []) rfl trivial ?_
  show mu_W _ _ (47, [(7, .inl (nI 0)), (6, .inl (nI ((st % 8192) + 1))), (5, .inr (.inr (some cq3))), (4, .inl (nI (hsz fc st))), (3, .inl (0 : Int32)), (0, .inr (.inr (some 113))), (1, .inl (nI id)), (2, .inr (.inr (some 152)))], [], H) _
  refine mw_sub (L' := [(7, .inl (nI 0)), (0, .inr (.inr (some 113))), (1, .inl (nI id)), (2, .inr (.inr (some 152))), (3, .inl (0 : Int32)), (4, .inl (nI (hsz fc st))), (5, .inr (.inr (some cq3))), (6, .inl (nI ((st % 8192) + 1)))]) (by simp) ?_
  refine mw_down (α := Nat) (fun zs => (47, [(7, .inl (nI zs)), (0, .inr (.inr (some 113))), (1, .inl (nI id)), (2, .inr (.inr (some 152))), (3, .inl (0 : Int32)), (4, .inl (nI (hsz fc st))), (5, .inr (.inr (some cq3))), (6, .inl (nI ((st % 8192) + 1)))], [], H)) (fun zs => hsz fc st - zs) (fun zs => (zs ≤ hsz fc st) ∧ (∀ i, i < zs → ∀ t, nmzU fc st (1 * i) ≤ t → t ≤ nmzU fc st (1 * i + 1 - 1) → bts (U.2.2.2.2.1 152) t = false)) (fun zs hza iha => ?_) 0 ⟨(show 0 ≤ hsz fc st from (by omega)), (show ∀ i, i < 0 → ∀ t, nmzU fc st (1 * i) ≤ t → t ≤ nmzU fc st (1 * i + 1 - 1) → bts (U.2.2.2.2.1 152) t = false from (fun _ h1 => absurd h1 (Nat.not_lt_zero _)))⟩
  obtain ⟨y, rfl⟩ : ∃ y, y = zs := ⟨zs, rfl⟩
  obtain ⟨hw, hN⟩ := hza
  have hw : y ≤ hsz fc st := hw
  have hN : ∀ i, i < y → ∀ t, nmzU fc st (1 * i) ≤ t → t ≤ nmzU fc st (1 * i + 1 - 1) → bts (U.2.2.2.2.1 152) t = false := hN
  show mu_W _ _ (47, [(7, .inl (nI y)), (0, .inr (.inr (some 113))), (1, .inl (nI id)), (2, .inr (.inr (some 152))), (3, .inl (0 : Int32)), (4, .inl (nI (hsz fc st))), (5, .inr (.inr (some cq3))), (6, .inl (nI ((st % 8192) + 1)))], [], H) _
  refine mw_go mu_g241 (k := 2) (f1 := (51, [(7, .inl (nI y)), (0, .inr (.inr (some 113))), (1, .inl (nI id)), (2, .inr (.inr (some 152))), (3, .inl (0 : Int32)), (4, .inl (nI (hsz fc st))), (5, .inr (.inr (some cq3))), (6, .inl (nI ((st % 8192) + 1)))], [.inl (nI (hsz fc st)), .inl (nI y)], H)) (C := []) rfl trivial ?_
  refine mw_if (P := (nI y) < (nI (hsz fc st))) (a := 54) (b := 134) (fun _ => rfl) trivial (fun h4 => ?_) (fun h4 => ?_)
  · -- 54: (nI y) < (nI (hsz fc st))
    have nh4 : y < (hsz fc st) := (nI_ltI (by omega) (by omega)).mp (show nI y < nI (hsz fc st) from h4)
    refine mw_go mu_g241 (k := 2) (f1 := (56, [(7, .inl (nI y)), (0, .inr (.inr (some 113))), (1, .inl (nI id)), (2, .inr (.inr (some 152))), (3, .inl (0 : Int32)), (4, .inl (nI (hsz fc st))), (5, .inr (.inr (some cq3))), (6, .inl (nI ((st % 8192) + 1)))], [.inl (2 : Int32), .inl (0 : Int32)], H)) (C := []) rfl trivial ?_
    refine mw_if (P := (0 : Int32) = (2 : Int32)) (a := 59) (b := 79) (fun _ => rfl) trivial (fun h5 => absurd h5 (by decide)) (fun h5 => ?_)
    refine mw_go mu_g241 (k := 1) (f1 := (80, [(7, .inl (nI y)), (0, .inr (.inr (some 113))), (1, .inl (nI id)), (2, .inr (.inr (some 152))), (3, .inl (0 : Int32)), (4, .inl (nI (hsz fc st))), (5, .inr (.inr (some cq3))), (6, .inl (nI ((st % 8192) + 1)))], [.inl (0 : Int32)], H)) (C := []) rfl trivial ?_
    refine mw_if (P := (0 : Int32) = 0) (a := 83) (b := 99) (fun _ => rfl) trivial (fun h6 => ?_) (fun h6 => absurd (by decide) h6)
    refine mw_go mu_g241 (k := 4) (f1 := (88, [(7, .inl (nI y)), (0, .inr (.inr (some 113))), (1, .inl (nI id)), (2, .inr (.inr (some 152))), (3, .inl (0 : Int32)), (4, .inl (nI (hsz fc st))), (5, .inr (.inr (some cq3))), (6, .inl (nI ((st % 8192) + 1)))], [.inl (nI y), .inl (nI id), .inr (.inr (some 113)), .inr (.inr (some 152))], H)) (C := []) rfl trivial ?_
    refine mw_cIe (fun _ => rfl) (show mu_is H (some 113) 11 from (h.1.1.is rfl)) (st_num (d := (d + 1)) (p := y) h e hs (by omega) (by omega)) ?_
    have kn7 : nmzU fc st y < 16384 := hS _ ((hm3.2 _).mpr ⟨y, by omega, by rw [Nat.one_mul]; exact Nat.le_refl _, by rw [Nat.one_mul]; exact Nat.le_refl _⟩)
    refine mw_cIe (fun _ => rfl) trivial (pv_has_152 (d := (d + 1)) (k := nmzU fc st y) h e (by omega)) ?_
    refine mw_if (P := (if btz (U.2.2.2.2.1 152 ((nmzU fc st y) / 64)) ((nmzU fc st y) % 64) = true then 1 else 0) = 0) (a := 128) (b := 97) (fun _ => rfl) trivial (fun h9 => ?_) (fun h9 => ?_)
    · -- 128: (if btz (U.2.2.2.2.1 152 ((nmzU fc st y) / 64)) ((nmzU fc st y) % 64) = true then 1 else 0) = 0
      refine mw_go mu_g241 (k := 1) (f1 := (131, [(7, .inl ((nI y) + 1)), (0, .inr (.inr (some 113))), (1, .inl (nI id)), (2, .inr (.inr (some 152))), (3, .inl (0 : Int32)), (4, .inl (nI (hsz fc st))), (5, .inr (.inr (some cq3))), (6, .inl (nI ((st % 8192) + 1)))], [], H)) (C := []) rfl trivial ?_
      rw [(show ((nI y) + 1) = (nI (y + 1)) from (nI_add y 1))]
      refine mw_go mu_g241 (k := 1) (f1 := (47, [(7, .inl (nI (y + 1))), (0, .inr (.inr (some 113))), (1, .inl (nI id)), (2, .inr (.inr (some 152))), (3, .inl (0 : Int32)), (4, .inl (nI (hsz fc st))), (5, .inr (.inr (some cq3))), (6, .inl (nI ((st % 8192) + 1)))], [], H)) (C := []) rfl trivial ?_
      exact mw_sub (by simp) (iha (y + 1) ⟨(show (y + 1) ≤ hsz fc st from (by omega)), (show ∀ i, i < (y + 1) → ∀ t, nmzU fc st (1 * i) ≤ t → t ≤ nmzU fc st (1 * i + 1 - 1) → bts (U.2.2.2.2.1 152) t = false from (m1_no (E := 1) (L := (U.2.2.2.2.1 152)) hN (m0_no (ite_noU h9))))⟩ (by show hsz fc st - (y + 1) < hsz fc st - y; omega))
    · -- 97: not (if btz (U.2.2.2.2.1 152 ((nmzU fc st y) / 64)) ((nmzU fc st y) % 64) = true then 1 else 0) = 0
      refine mw_go mu_g241 (k := 1) (f1 := (98, [(7, .inl (nI y)), (0, .inr (.inr (some 113))), (1, .inl (nI id)), (2, .inr (.inr (some 152))), (3, .inl (0 : Int32)), (4, .inl (nI (hsz fc st))), (5, .inr (.inr (some cq3))), (6, .inl (nI ((st % 8192) + 1)))], [.inl (1 : Int32)], H)) (C := []) rfl trivial ?_
      exact mw_of (fun _ => mu_ret rfl (Or.inr rfl) ⟨(1 : Int32), H, rfl, Or.inl ⟨rfl, ⟨nmzU fc st y, (hm3.2 _).mpr ⟨y, by omega, by rw [Nat.one_mul]; exact Nat.le_refl _, by rw [Nat.one_mul]; exact Nat.le_refl _⟩, ite_yes h9⟩, rfl⟩⟩)
  · -- 134: not (nI y) < (nI (hsz fc st))
    have nh4 : ¬ y < (hsz fc st) := fun z => h4 (show nI y < nI (hsz fc st) from (nI_ltI (by omega) (by omega)).mpr z)
    refine mw_go mu_g241 (k := 1) (f1 := (135, [(7, .inl (nI y)), (0, .inr (.inr (some 113))), (1, .inl (nI id)), (2, .inr (.inr (some 152))), (3, .inl (0 : Int32)), (4, .inl (nI (hsz fc st))), (5, .inr (.inr (some cq3))), (6, .inl (nI ((st % 8192) + 1)))], [.inl (0 : Int32)], H)) (C := []) rfl trivial ?_
    exact mw_of (fun _ => mu_ret rfl (Or.inl rfl) ⟨(0 : Int32), H, rfl, Or.inr ⟨rfl, (mend (L := (U.2.2.2.2.1 152)) hm3 (fun i hi => hN i (by omega))), rfl⟩⟩)
theorem st_mts1 (h : um m H) (e : ud m H = U) (hs : sat U id st fc) (hz : stz fc st S) (hS : ∀ x, S x = true → x < 16384) (hf : hfm fc st = 1) : mu_TI (mu_D (d + 3)) 241 [.inr (.inr (some 113)), .inl (nI id), .inr (.inr (some 152))] H (fun x H1 => (x = 1 ∧ (∃ t, S t = true ∧ bts (U.2.2.2.2.1 152) t = true) ∧ H1 = H) ∨ (x = 0 ∧ (∀ t, S t = true → bts (U.2.2.2.2.1 152) t = false) ∧ H1 = H)) := by
  obtain ⟨⟨hi1, hi2⟩, hst, hst2, hch⟩ := (show sat U id st fc from hs)
  obtain ⟨hz1, hz2, hz3, hz4, hz5⟩ := hz
  obtain ⟨hm2, hm3⟩ := hz4 hf
  refine mu_meth (M := mu_m241) rfl rfl ?_
  refine mw_ht (mu_fn_of (show [0, 1, 2].Nodup by decide)) ?_
  refine mw_go mu_g241 (k := 2) (f1 := (2, [(0, .inr (.inr (some 113))), (1, .inl (nI id)), (2, .inr (.inr (some 152)))], [.inl (nI id), .inr (.inr (some 113))], H)) (C := []) rfl trivial ?_
  refine mw_cIe (fun _ => rfl) (show mu_is H (some 113) 11 from (h.1.1.is rfl)) (st_form (d := (d + 1)) h e hs) ?_
  rw [show nI (hfm fc st) = (1 : Int32) from congrArg nI hf]
  refine mw_go mu_g241 (k := 3) (f1 := (8, [(3, .inl (1 : Int32)), (0, .inr (.inr (some 113))), (1, .inl (nI id)), (2, .inr (.inr (some 152)))], [.inl (nI id), .inr (.inr (some 113))], H)) (C := []) rfl trivial ?_
  refine mw_cIe (fun _ => rfl) (show mu_is H (some 113) 11 from (h.1.1.is rfl)) (st_parts (d := (d + 1)) h e hs) ?_
  rw [show nI (hpt fc st) = nI (2 * hln fc st) from congrArg nI (by unfold hpt; rw [hf]; rfl)]
  have kl := hln_lt (fc := fc) (st := st)
  have kz := hsz_lt (fc := fc) (st := st)
  refine mw_go mu_g241 (k := 3) (f1 := (17, [(4, .inl (nI (2 * hln fc st))), (3, .inl (1 : Int32)), (0, .inr (.inr (some 113))), (1, .inl (nI id)), (2, .inr (.inr (some 152)))], [.inr (.inr (mu_r H 113 0))], H)) (C := [mu_is H (some 113) 11]) rfl (show mu_is H (some 113) 11 from (h.1.1.is rfl)) ?_
  rw [(h.1.1.r (p := 113) (j := 0) (q := 114) rfl)]
  refine mw_go mu_g241 (k := 2) (f1 := (21, [(4, .inl (nI (2 * hln fc st))), (3, .inl (1 : Int32)), (0, .inr (.inr (some 113))), (1, .inl (nI id)), (2, .inr (.inr (some 152)))], [.inr (.inr (mu_r H 113 3)), .inr (.inr (some 114))], H)) (C := [mu_is H (some 113) 11]) rfl (show mu_is H (some 113) 11 from (h.1.1.is rfl)) ?_
  rw [(show mu_r H 113 3 = (U.2.2.2.1 113 3) from (ud_q (U := U) (m := m) (P := 113) (j := 3) e rfl))]
  refine mw_go mu_g241 (k := 2) (f1 := (23, [(4, .inl (nI (2 * hln fc st))), (3, .inl (1 : Int32)), (0, .inr (.inr (some 113))), (1, .inl (nI id)), (2, .inr (.inr (some 152)))], [.inl (mu_i H (mu_p (U.2.2.2.1 113 3)) (nI id).toNatClampNeg), .inr (.inr (some 114))], H)) (C := [mu_isr H (U.2.2.2.1 113 3) 100, vp_in (nI id) (mu_n H (mu_p (U.2.2.2.1 113 3)))]) rfl (show (mu_isr H (U.2.2.2.1 113 3) 100) ∧ (vp_in (nI id) (mu_n H (mu_p (U.2.2.2.1 113 3)))) from ⟨((h.iA e rfl rfl (show U.2.2.2.1 113 3 = (U.2.2.2.1 113 3) from rfl))).r, (h.vA (i := id) e rfl rfl (show U.2.2.2.1 113 3 = (U.2.2.2.1 113 3) from rfl) (show (U.2.2.1 113 3).1 = (U.2.2.1 113 3).1 from rfl) (by omega) (by omega))⟩) ?_
  rw [(show (mu_i H (mu_p (U.2.2.2.1 113 3)) (nI id).toNatClampNeg) = (nI st) from ((congrArg (mu_i H (mu_p (U.2.2.2.1 113 3))) (show (nI id).toNatClampNeg = id from nI_clamp (by omega))).trans (h.gA e rfl rfl (show U.2.2.2.1 113 3 = (U.2.2.2.1 113 3) from rfl))).trans ((congrArg (fun z => z.2 id) (show U.2.2.1 113 3 = (U.2.2.1 113 3) from rfl)).trans hst))]
  refine mw_go mu_g241 (k := 2) (f1 := (27, [(4, .inl (nI (2 * hln fc st))), (3, .inl (1 : Int32)), (0, .inr (.inr (some 113))), (1, .inl (nI id)), (2, .inr (.inr (some 152)))], [.inl ((nI st) / (8192 : Int32)), .inr (.inr (some 114))], H)) (C := [¬ (8192 : Int32) = 0]) rfl (show ¬ (8192 : Int32) = 0 from (by decide)) ?_
  rw [(show ((nI st) / (8192 : Int32)) = (nI (st / 8192)) from (nI_div (a := st) (b := 8192) (by omega) (by omega)))]
  obtain ⟨cq3, ka3, kb3, kc3, kd3⟩ := um.gP h e (plp114 (show st / 8192 < 184 by omega)) (show U.2.2.2.2.2 114 (st / 8192) = some (8192, fc) from hch)
  refine mw_go mu_g241 (k := 1) (f1 := (28, [(4, .inl (nI (2 * hln fc st))), (3, .inl (1 : Int32)), (0, .inr (.inr (some 113))), (1, .inl (nI id)), (2, .inr (.inr (some 152)))], [.inr (.inr (mu_r H 114 (nI (st / 8192)).toNatClampNeg))], H)) (C := [mu_is H (some 114) (mu_k H 114), 103 ≤ mu_k H 114 ∧ mu_k H 114 ≤ 110 ∧ mu_k H 114 ≠ 108, vp_in (nI (st / 8192)) (mu_n H 114)]) rfl (show (mu_is H (some 114) (mu_k H 114)) ∧ (103 ≤ mu_k H 114 ∧ mu_k H 114 ≤ 110 ∧ mu_k H 114 ≠ 108) ∧ (vp_in (nI (st / 8192)) (mu_n H 114)) from ⟨(by have z := (h.1.1.a (p := 114) (x := (104, 184)) rfl).1; rw [show mu_k H 114 = 104 from z.2.2]; exact z), (by have z := (h.1.1.a (p := 114) (x := (104, 184)) rfl).1; rw [show mu_k H 114 = 104 from z.2.2]; decide), (by rw [show mu_n H 114 = 184 from (h.1.1.a (p := 114) (x := (104, 184)) rfl).2]; exact vp_in_nI (n := st / 8192) (by omega) (by decide))⟩) ?_
  rw [(show (mu_r H 114 (nI (st / 8192)).toNatClampNeg) = some cq3 from (congrArg (mu_r H 114) (show (nI (st / 8192)).toNatClampNeg = st / 8192 from nI_clamp (by omega))).trans ka3)]
  refine mw_go mu_g241 (k := 3) (f1 := (34, [(5, .inr (.inr (some cq3))), (4, .inl (nI (2 * hln fc st))), (3, .inl (1 : Int32)), (0, .inr (.inr (some 113))), (1, .inl (nI id)), (2, .inr (.inr (some 152)))], [.inr (.inr (mu_r H 113 3))], H)) (C := [mu_is H (some 113) 11]) rfl (show mu_is H (some 113) 11 from (h.1.1.is rfl)) ?_
  rw [(show mu_r H 113 3 = (U.2.2.2.1 113 3) from (ud_q (U := U) (m := m) (P := 113) (j := 3) e rfl))]
  refine mw_go mu_g241 (k := 2) (f1 := (36, [(5, .inr (.inr (some cq3))), (4, .inl (nI (2 * hln fc st))), (3, .inl (1 : Int32)), (0, .inr (.inr (some 113))), (1, .inl (nI id)), (2, .inr (.inr (some 152)))], [.inl (mu_i H (mu_p (U.2.2.2.1 113 3)) (nI id).toNatClampNeg)], H)) (C := [mu_isr H (U.2.2.2.1 113 3) 100, vp_in (nI id) (mu_n H (mu_p (U.2.2.2.1 113 3)))]) rfl (show (mu_isr H (U.2.2.2.1 113 3) 100) ∧ (vp_in (nI id) (mu_n H (mu_p (U.2.2.2.1 113 3)))) from ⟨((h.iA e rfl rfl (show U.2.2.2.1 113 3 = (U.2.2.2.1 113 3) from rfl))).r, (h.vA (i := id) e rfl rfl (show U.2.2.2.1 113 3 = (U.2.2.2.1 113 3) from rfl) (show (U.2.2.1 113 3).1 = (U.2.2.1 113 3).1 from rfl) (by omega) (by omega))⟩) ?_
  rw [(show (mu_i H (mu_p (U.2.2.2.1 113 3)) (nI id).toNatClampNeg) = (nI st) from ((congrArg (mu_i H (mu_p (U.2.2.2.1 113 3))) (show (nI id).toNatClampNeg = id from nI_clamp (by omega))).trans (h.gA e rfl rfl (show U.2.2.2.1 113 3 = (U.2.2.2.1 113 3) from rfl))).trans ((congrArg (fun z => z.2 id) (show U.2.2.1 113 3 = (U.2.2.1 113 3) from rfl)).trans hst))]
  refine mw_go mu_g241 (k := 2) (f1 := (40, [(5, .inr (.inr (some cq3))), (4, .inl (nI (2 * hln fc st))), (3, .inl (1 : Int32)), (0, .inr (.inr (some 113))), (1, .inl (nI id)), (2, .inr (.inr (some 152)))], [.inl ((nI st) - (nI st) / (8192 : Int32) * (8192 : Int32))], H)) (C := [¬ (8192 : Int32) = 0]) rfl (show ¬ (8192 : Int32) = 0 from (by decide)) ?_
  rw [(show ((nI st) - (nI st) / (8192 : Int32) * (8192 : Int32)) = (nI (st % 8192)) from (nI_mod (a := st) (b := 8192) (by omega) (by omega)))]
  refine mw_go mu_g241 (k := 2) (f1 := (42, [(5, .inr (.inr (some cq3))), (4, .inl (nI (2 * hln fc st))), (3, .inl (1 : Int32)), (0, .inr (.inr (some 113))), (1, .inl (nI id)), (2, .inr (.inr (some 152)))], [.inl ((nI (st % 8192)) + (1 : Int32))], H)) (C := []) rfl trivial ?_
  rw [(show ((nI (st % 8192)) + (1 : Int32)) = (nI ((st % 8192) + 1)) from (nI_add (st % 8192) 1))]
  refine mw_go mu_g241 (k := 3) (f1 := (47, [(7, .inl (0 : Int32)), (6, .inl (nI ((st % 8192) + 1))), (5, .inr (.inr (some cq3))), (4, .inl (nI (2 * hln fc st))), (3, .inl (1 : Int32)), (0, .inr (.inr (some 113))), (1, .inl (nI id)), (2, .inr (.inr (some 152)))], [], H)) (C := []) rfl trivial ?_
  show mu_W _ _ (47, [(7, .inl (nI 0)), (6, .inl (nI ((st % 8192) + 1))), (5, .inr (.inr (some cq3))), (4, .inl (nI (2 * hln fc st))), (3, .inl (1 : Int32)), (0, .inr (.inr (some 113))), (1, .inl (nI id)), (2, .inr (.inr (some 152)))], [], H) _
  refine mw_sub (L' := [(7, .inl (nI 0)), (0, .inr (.inr (some 113))), (1, .inl (nI id)), (2, .inr (.inr (some 152))), (3, .inl (1 : Int32)), (4, .inl (nI (2 * hln fc st))), (5, .inr (.inr (some cq3))), (6, .inl (nI ((st % 8192) + 1)))]) (by simp) ?_
  refine mw_down (α := Nat) (fun zs => (47, [(7, .inl (nI zs)), (0, .inr (.inr (some 113))), (1, .inl (nI id)), (2, .inr (.inr (some 152))), (3, .inl (1 : Int32)), (4, .inl (nI (2 * hln fc st))), (5, .inr (.inr (some cq3))), (6, .inl (nI ((st % 8192) + 1)))], [], H)) (fun zs => 2 * hln fc st - zs) (fun zs => (zs ≤ 2 * hln fc st) ∧ (∀ i, i < zs → ∀ t, nmzU fc st (2 * i) ≤ t → t ≤ nmzU fc st (2 * i + 2 - 1) → bts (U.2.2.2.2.1 152) t = false)) (fun zs hza iha => ?_) 0 ⟨(show 0 ≤ 2 * hln fc st from (by omega)), (show ∀ i, i < 0 → ∀ t, nmzU fc st (2 * i) ≤ t → t ≤ nmzU fc st (2 * i + 2 - 1) → bts (U.2.2.2.2.1 152) t = false from (fun _ h1 => absurd h1 (Nat.not_lt_zero _)))⟩
  obtain ⟨y, rfl⟩ : ∃ y, y = zs := ⟨zs, rfl⟩
  obtain ⟨hw, hN⟩ := hza
  have hw : y ≤ 2 * hln fc st := hw
  have hN : ∀ i, i < y → ∀ t, nmzU fc st (2 * i) ≤ t → t ≤ nmzU fc st (2 * i + 2 - 1) → bts (U.2.2.2.2.1 152) t = false := hN
  show mu_W _ _ (47, [(7, .inl (nI y)), (0, .inr (.inr (some 113))), (1, .inl (nI id)), (2, .inr (.inr (some 152))), (3, .inl (1 : Int32)), (4, .inl (nI (2 * hln fc st))), (5, .inr (.inr (some cq3))), (6, .inl (nI ((st % 8192) + 1)))], [], H) _
  refine mw_go mu_g241 (k := 2) (f1 := (51, [(7, .inl (nI y)), (0, .inr (.inr (some 113))), (1, .inl (nI id)), (2, .inr (.inr (some 152))), (3, .inl (1 : Int32)), (4, .inl (nI (2 * hln fc st))), (5, .inr (.inr (some cq3))), (6, .inl (nI ((st % 8192) + 1)))], [.inl (nI (2 * hln fc st)), .inl (nI y)], H)) (C := []) rfl trivial ?_
  refine mw_if (P := (nI y) < (nI (2 * hln fc st))) (a := 54) (b := 134) (fun _ => rfl) trivial (fun h4 => ?_) (fun h4 => ?_)
  · -- 54: (nI y) < (nI (2 * hln fc st))
    have nh4 : y < (2 * hln fc st) := (nI_ltI (by omega) (by omega)).mp (show nI y < nI (2 * hln fc st) from h4)
    refine mw_go mu_g241 (k := 2) (f1 := (56, [(7, .inl (nI y)), (0, .inr (.inr (some 113))), (1, .inl (nI id)), (2, .inr (.inr (some 152))), (3, .inl (1 : Int32)), (4, .inl (nI (2 * hln fc st))), (5, .inr (.inr (some cq3))), (6, .inl (nI ((st % 8192) + 1)))], [.inl (2 : Int32), .inl (1 : Int32)], H)) (C := []) rfl trivial ?_
    refine mw_if (P := (1 : Int32) = (2 : Int32)) (a := 59) (b := 79) (fun _ => rfl) trivial (fun h5 => absurd h5 (by decide)) (fun h5 => ?_)
    refine mw_go mu_g241 (k := 1) (f1 := (80, [(7, .inl (nI y)), (0, .inr (.inr (some 113))), (1, .inl (nI id)), (2, .inr (.inr (some 152))), (3, .inl (1 : Int32)), (4, .inl (nI (2 * hln fc st))), (5, .inr (.inr (some cq3))), (6, .inl (nI ((st % 8192) + 1)))], [.inl (1 : Int32)], H)) (C := []) rfl trivial ?_
    refine mw_if (P := (1 : Int32) = 0) (a := 83) (b := 99) (fun _ => rfl) trivial (fun h6 => absurd h6 (by decide)) (fun h6 => ?_)
    refine mw_go mu_g241 (k := 5) (f1 := (105, [(7, .inl (nI y)), (0, .inr (.inr (some 113))), (1, .inl (nI id)), (2, .inr (.inr (some 152))), (3, .inl (1 : Int32)), (4, .inl (nI (2 * hln fc st))), (5, .inr (.inr (some cq3))), (6, .inl (nI ((st % 8192) + 1)))], [.inl ((2 : Int32) * (nI y)), .inl (nI id), .inr (.inr (some 113))], H)) (C := []) rfl trivial ?_
    rw [(show ((2 : Int32) * (nI y)) = (nI (2 * y)) from (nI_mul (a := 2) (b := y)))]
    refine mw_cIe (fun _ => rfl) (show mu_is H (some 113) 11 from (h.1.1.is rfl)) (st_num (d := (d + 1)) (p := 2 * y) h e hs (by omega) (by omega)) ?_
    have kn7 : nmzU fc st (2 * y) < 16384 := hS _ ((hm3.2 _).mpr ⟨y, by omega, Nat.le_refl _, hm2 y (by omega)⟩)
    refine mw_go mu_g241 (k := 5) (f1 := (114, [(7, .inl (nI y)), (0, .inr (.inr (some 113))), (1, .inl (nI id)), (2, .inr (.inr (some 152))), (3, .inl (1 : Int32)), (4, .inl (nI (2 * hln fc st))), (5, .inr (.inr (some cq3))), (6, .inl (nI ((st % 8192) + 1)))], [.inl ((2 : Int32) * (nI y)), .inl (nI id), .inr (.inr (some 113)), .inl (nI (nmzU fc st (2 * y)))], H)) (C := []) rfl trivial ?_
    rw [(show ((2 : Int32) * (nI y)) = (nI (2 * y)) from (nI_mul (a := 2) (b := y)))]
    refine mw_go mu_g241 (k := 2) (f1 := (116, [(7, .inl (nI y)), (0, .inr (.inr (some 113))), (1, .inl (nI id)), (2, .inr (.inr (some 152))), (3, .inl (1 : Int32)), (4, .inl (nI (2 * hln fc st))), (5, .inr (.inr (some cq3))), (6, .inl (nI ((st % 8192) + 1)))], [.inl ((nI (2 * y)) + (1 : Int32)), .inl (nI id), .inr (.inr (some 113)), .inl (nI (nmzU fc st (2 * y)))], H)) (C := []) rfl trivial ?_
    rw [(show ((nI (2 * y)) + (1 : Int32)) = (nI ((2 * y) + 1)) from (nI_add (2 * y) 1))]
    refine mw_cIe (fun _ => rfl) (show mu_is H (some 113) 11 from (h.1.1.is rfl)) (st_num (d := (d + 1)) (p := (2 * y) + 1) h e hs (by omega) (by omega)) ?_
    have kn8 : nmzU fc st ((2 * y) + 1) < 16384 := hS _ ((hm3.2 _).mpr ⟨y, by omega, hm2 y (by omega), Nat.le_refl _⟩)
    refine mw_go mu_g241 (k := 1) (f1 := (120, [(7, .inl (nI y)), (0, .inr (.inr (some 113))), (1, .inl (nI id)), (2, .inr (.inr (some 152))), (3, .inl (1 : Int32)), (4, .inl (nI (2 * hln fc st))), (5, .inr (.inr (some cq3))), (6, .inl (nI ((st % 8192) + 1)))], [.inr (.inr (some 152)), .inl (nI (nmzU fc st ((2 * y) + 1))), .inl (nI (nmzU fc st (2 * y)))], H)) (C := []) rfl trivial ?_
    refine mw_cI (fun _ => rfl) trivial (st_run (d := d) (a := nmzU fc st (2 * y)) (b := nmzU fc st ((2 * y) + 1)) h e (hm2 y (by omega)) (by omega)) (fun x9 H9 q9 => ?_)
    rcases q9 with ⟨rfl, hyes, hQe⟩ | ⟨rfl, hno, hQe⟩
    · -- (1 : Int32)
      rw [hQe]
      refine mw_if (P := (1 : Int32) = 0) (a := 128) (b := 126) (fun _ => rfl) trivial (fun h10 => absurd h10 (by decide)) (fun h10 => ?_)
      refine mw_go mu_g241 (k := 1) (f1 := (127, [(7, .inl (nI y)), (0, .inr (.inr (some 113))), (1, .inl (nI id)), (2, .inr (.inr (some 152))), (3, .inl (1 : Int32)), (4, .inl (nI (2 * hln fc st))), (5, .inr (.inr (some cq3))), (6, .inl (nI ((st % 8192) + 1)))], [.inl (1 : Int32)], H)) (C := []) rfl trivial ?_
      exact mw_of (fun _ => mu_ret rfl (Or.inr rfl) ⟨(1 : Int32), H, rfl, Or.inl ⟨rfl, (hyes.elim (fun t k => ⟨t, (hm3.2 t).mpr ⟨y, by omega, k.1, k.2.1⟩, k.2.2⟩)), rfl⟩⟩)
    · -- (0 : Int32)
      rw [hQe]
      refine mw_if (P := (0 : Int32) = 0) (a := 128) (b := 126) (fun _ => rfl) trivial (fun h11 => ?_) (fun h11 => absurd (by decide) h11)
      refine mw_go mu_g241 (k := 1) (f1 := (131, [(7, .inl ((nI y) + 1)), (0, .inr (.inr (some 113))), (1, .inl (nI id)), (2, .inr (.inr (some 152))), (3, .inl (1 : Int32)), (4, .inl (nI (2 * hln fc st))), (5, .inr (.inr (some cq3))), (6, .inl (nI ((st % 8192) + 1)))], [], H)) (C := []) rfl trivial ?_
      rw [(show ((nI y) + 1) = (nI (y + 1)) from (nI_add y 1))]
      refine mw_go mu_g241 (k := 1) (f1 := (47, [(7, .inl (nI (y + 1))), (0, .inr (.inr (some 113))), (1, .inl (nI id)), (2, .inr (.inr (some 152))), (3, .inl (1 : Int32)), (4, .inl (nI (2 * hln fc st))), (5, .inr (.inr (some cq3))), (6, .inl (nI ((st % 8192) + 1)))], [], H)) (C := []) rfl trivial ?_
      exact mw_sub (by simp) (iha (y + 1) ⟨(show (y + 1) ≤ 2 * hln fc st from (by omega)), (show ∀ i, i < (y + 1) → ∀ t, nmzU fc st (2 * i) ≤ t → t ≤ nmzU fc st (2 * i + 2 - 1) → bts (U.2.2.2.2.1 152) t = false from (m1_no (E := 2) (L := (U.2.2.2.2.1 152)) hN hno))⟩ (by show 2 * hln fc st - (y + 1) < 2 * hln fc st - y; omega))
  · -- 134: not (nI y) < (nI (2 * hln fc st))
    have nh4 : ¬ y < (2 * hln fc st) := fun z => h4 (show nI y < nI (2 * hln fc st) from (nI_ltI (by omega) (by omega)).mpr z)
    refine mw_go mu_g241 (k := 1) (f1 := (135, [(7, .inl (nI y)), (0, .inr (.inr (some 113))), (1, .inl (nI id)), (2, .inr (.inr (some 152))), (3, .inl (1 : Int32)), (4, .inl (nI (2 * hln fc st))), (5, .inr (.inr (some cq3))), (6, .inl (nI ((st % 8192) + 1)))], [.inl (0 : Int32)], H)) (C := []) rfl trivial ?_
    exact mw_of (fun _ => mu_ret rfl (Or.inl rfl) ⟨(0 : Int32), H, rfl, Or.inr ⟨rfl, (mend (L := (U.2.2.2.2.1 152)) hm3 (fun i hi => hN i (by omega))), rfl⟩⟩)
theorem st_mts2 (h : um m H) (e : ud m H = U) (hs : sat U id st fc) (hz : stz fc st S) (hS : ∀ x, S x = true → x < 16384) (hf : hfm fc st = 2) : mu_TI (mu_D (d + 3)) 241 [.inr (.inr (some 113)), .inl (nI id), .inr (.inr (some 152))] H (fun x H1 => (x = 1 ∧ (∃ t, S t = true ∧ bts (U.2.2.2.2.1 152) t = true) ∧ H1 = H) ∨ (x = 0 ∧ (∀ t, S t = true → bts (U.2.2.2.2.1 152) t = false) ∧ H1 = H)) := by
  obtain ⟨⟨hi1, hi2⟩, hst, hst2, hch⟩ := (show sat U id st fc from hs)
  obtain ⟨hz1, hz2, hz3, hz4, hz5⟩ := hz
  have hm3 := hz5 hf
  refine mu_meth (M := mu_m241) rfl rfl ?_
  refine mw_ht (mu_fn_of (show [0, 1, 2].Nodup by decide)) ?_
  refine mw_go mu_g241 (k := 2) (f1 := (2, [(0, .inr (.inr (some 113))), (1, .inl (nI id)), (2, .inr (.inr (some 152)))], [.inl (nI id), .inr (.inr (some 113))], H)) (C := []) rfl trivial ?_
  refine mw_cIe (fun _ => rfl) (show mu_is H (some 113) 11 from (h.1.1.is rfl)) (st_form (d := (d + 1)) h e hs) ?_
  rw [show nI (hfm fc st) = (2 : Int32) from congrArg nI hf]
  refine mw_go mu_g241 (k := 3) (f1 := (8, [(3, .inl (2 : Int32)), (0, .inr (.inr (some 113))), (1, .inl (nI id)), (2, .inr (.inr (some 152)))], [.inl (nI id), .inr (.inr (some 113))], H)) (C := []) rfl trivial ?_
  refine mw_cIe (fun _ => rfl) (show mu_is H (some 113) 11 from (h.1.1.is rfl)) (st_parts (d := (d + 1)) h e hs) ?_
  rw [show nI (hpt fc st) = nI (hln fc st) from congrArg nI (by unfold hpt; rw [hf]; rfl)]
  have kl := hln_lt (fc := fc) (st := st)
  have kz := hsz_lt (fc := fc) (st := st)
  refine mw_go mu_g241 (k := 3) (f1 := (17, [(4, .inl (nI (hln fc st))), (3, .inl (2 : Int32)), (0, .inr (.inr (some 113))), (1, .inl (nI id)), (2, .inr (.inr (some 152)))], [.inr (.inr (mu_r H 113 0))], H)) (C := [mu_is H (some 113) 11]) rfl (show mu_is H (some 113) 11 from (h.1.1.is rfl)) ?_
  rw [(h.1.1.r (p := 113) (j := 0) (q := 114) rfl)]
  refine mw_go mu_g241 (k := 2) (f1 := (21, [(4, .inl (nI (hln fc st))), (3, .inl (2 : Int32)), (0, .inr (.inr (some 113))), (1, .inl (nI id)), (2, .inr (.inr (some 152)))], [.inr (.inr (mu_r H 113 3)), .inr (.inr (some 114))], H)) (C := [mu_is H (some 113) 11]) rfl (show mu_is H (some 113) 11 from (h.1.1.is rfl)) ?_
  rw [(show mu_r H 113 3 = (U.2.2.2.1 113 3) from (ud_q (U := U) (m := m) (P := 113) (j := 3) e rfl))]
  refine mw_go mu_g241 (k := 2) (f1 := (23, [(4, .inl (nI (hln fc st))), (3, .inl (2 : Int32)), (0, .inr (.inr (some 113))), (1, .inl (nI id)), (2, .inr (.inr (some 152)))], [.inl (mu_i H (mu_p (U.2.2.2.1 113 3)) (nI id).toNatClampNeg), .inr (.inr (some 114))], H)) (C := [mu_isr H (U.2.2.2.1 113 3) 100, vp_in (nI id) (mu_n H (mu_p (U.2.2.2.1 113 3)))]) rfl (show (mu_isr H (U.2.2.2.1 113 3) 100) ∧ (vp_in (nI id) (mu_n H (mu_p (U.2.2.2.1 113 3)))) from ⟨((h.iA e rfl rfl (show U.2.2.2.1 113 3 = (U.2.2.2.1 113 3) from rfl))).r, (h.vA (i := id) e rfl rfl (show U.2.2.2.1 113 3 = (U.2.2.2.1 113 3) from rfl) (show (U.2.2.1 113 3).1 = (U.2.2.1 113 3).1 from rfl) (by omega) (by omega))⟩) ?_
  rw [(show (mu_i H (mu_p (U.2.2.2.1 113 3)) (nI id).toNatClampNeg) = (nI st) from ((congrArg (mu_i H (mu_p (U.2.2.2.1 113 3))) (show (nI id).toNatClampNeg = id from nI_clamp (by omega))).trans (h.gA e rfl rfl (show U.2.2.2.1 113 3 = (U.2.2.2.1 113 3) from rfl))).trans ((congrArg (fun z => z.2 id) (show U.2.2.1 113 3 = (U.2.2.1 113 3) from rfl)).trans hst))]
  refine mw_go mu_g241 (k := 2) (f1 := (27, [(4, .inl (nI (hln fc st))), (3, .inl (2 : Int32)), (0, .inr (.inr (some 113))), (1, .inl (nI id)), (2, .inr (.inr (some 152)))], [.inl ((nI st) / (8192 : Int32)), .inr (.inr (some 114))], H)) (C := [¬ (8192 : Int32) = 0]) rfl (show ¬ (8192 : Int32) = 0 from (by decide)) ?_
  rw [(show ((nI st) / (8192 : Int32)) = (nI (st / 8192)) from (nI_div (a := st) (b := 8192) (by omega) (by omega)))]
  obtain ⟨cq3, ka3, kb3, kc3, kd3⟩ := um.gP h e (plp114 (show st / 8192 < 184 by omega)) (show U.2.2.2.2.2 114 (st / 8192) = some (8192, fc) from hch)
  refine mw_go mu_g241 (k := 1) (f1 := (28, [(4, .inl (nI (hln fc st))), (3, .inl (2 : Int32)), (0, .inr (.inr (some 113))), (1, .inl (nI id)), (2, .inr (.inr (some 152)))], [.inr (.inr (mu_r H 114 (nI (st / 8192)).toNatClampNeg))], H)) (C := [mu_is H (some 114) (mu_k H 114), 103 ≤ mu_k H 114 ∧ mu_k H 114 ≤ 110 ∧ mu_k H 114 ≠ 108, vp_in (nI (st / 8192)) (mu_n H 114)]) rfl (show (mu_is H (some 114) (mu_k H 114)) ∧ (103 ≤ mu_k H 114 ∧ mu_k H 114 ≤ 110 ∧ mu_k H 114 ≠ 108) ∧ (vp_in (nI (st / 8192)) (mu_n H 114)) from ⟨(by have z := (h.1.1.a (p := 114) (x := (104, 184)) rfl).1; rw [show mu_k H 114 = 104 from z.2.2]; exact z), (by have z := (h.1.1.a (p := 114) (x := (104, 184)) rfl).1; rw [show mu_k H 114 = 104 from z.2.2]; decide), (by rw [show mu_n H 114 = 184 from (h.1.1.a (p := 114) (x := (104, 184)) rfl).2]; exact vp_in_nI (n := st / 8192) (by omega) (by decide))⟩) ?_
  rw [(show (mu_r H 114 (nI (st / 8192)).toNatClampNeg) = some cq3 from (congrArg (mu_r H 114) (show (nI (st / 8192)).toNatClampNeg = st / 8192 from nI_clamp (by omega))).trans ka3)]
  refine mw_go mu_g241 (k := 3) (f1 := (34, [(5, .inr (.inr (some cq3))), (4, .inl (nI (hln fc st))), (3, .inl (2 : Int32)), (0, .inr (.inr (some 113))), (1, .inl (nI id)), (2, .inr (.inr (some 152)))], [.inr (.inr (mu_r H 113 3))], H)) (C := [mu_is H (some 113) 11]) rfl (show mu_is H (some 113) 11 from (h.1.1.is rfl)) ?_
  rw [(show mu_r H 113 3 = (U.2.2.2.1 113 3) from (ud_q (U := U) (m := m) (P := 113) (j := 3) e rfl))]
  refine mw_go mu_g241 (k := 2) (f1 := (36, [(5, .inr (.inr (some cq3))), (4, .inl (nI (hln fc st))), (3, .inl (2 : Int32)), (0, .inr (.inr (some 113))), (1, .inl (nI id)), (2, .inr (.inr (some 152)))], [.inl (mu_i H (mu_p (U.2.2.2.1 113 3)) (nI id).toNatClampNeg)], H)) (C := [mu_isr H (U.2.2.2.1 113 3) 100, vp_in (nI id) (mu_n H (mu_p (U.2.2.2.1 113 3)))]) rfl (show (mu_isr H (U.2.2.2.1 113 3) 100) ∧ (vp_in (nI id) (mu_n H (mu_p (U.2.2.2.1 113 3)))) from ⟨((h.iA e rfl rfl (show U.2.2.2.1 113 3 = (U.2.2.2.1 113 3) from rfl))).r, (h.vA (i := id) e rfl rfl (show U.2.2.2.1 113 3 = (U.2.2.2.1 113 3) from rfl) (show (U.2.2.1 113 3).1 = (U.2.2.1 113 3).1 from rfl) (by omega) (by omega))⟩) ?_
  rw [(show (mu_i H (mu_p (U.2.2.2.1 113 3)) (nI id).toNatClampNeg) = (nI st) from ((congrArg (mu_i H (mu_p (U.2.2.2.1 113 3))) (show (nI id).toNatClampNeg = id from nI_clamp (by omega))).trans (h.gA e rfl rfl (show U.2.2.2.1 113 3 = (U.2.2.2.1 113 3) from rfl))).trans ((congrArg (fun z => z.2 id) (show U.2.2.1 113 3 = (U.2.2.1 113 3) from rfl)).trans hst))]
  refine mw_go mu_g241 (k := 2) (f1 := (40, [(5, .inr (.inr (some cq3))), (4, .inl (nI (hln fc st))), (3, .inl (2 : Int32)), (0, .inr (.inr (some 113))), (1, .inl (nI id)), (2, .inr (.inr (some 152)))], [.inl ((nI st) - (nI st) / (8192 : Int32) * (8192 : Int32))], H)) (C := [¬ (8192 : Int32) = 0]) rfl (show ¬ (8192 : Int32) = 0 from (by decide)) ?_
  rw [(show ((nI st) - (nI st) / (8192 : Int32) * (8192 : Int32)) = (nI (st % 8192)) from (nI_mod (a := st) (b := 8192) (by omega) (by omega)))]
  refine mw_go mu_g241 (k := 2) (f1 := (42, [(5, .inr (.inr (some cq3))), (4, .inl (nI (hln fc st))), (3, .inl (2 : Int32)), (0, .inr (.inr (some 113))), (1, .inl (nI id)), (2, .inr (.inr (some 152)))], [.inl ((nI (st % 8192)) + (1 : Int32))], H)) (C := []) rfl trivial ?_
  rw [(show ((nI (st % 8192)) + (1 : Int32)) = (nI ((st % 8192) + 1)) from (nI_add (st % 8192) 1))]
  refine mw_go mu_g241 (k := 3) (f1 := (47, [(7, .inl (0 : Int32)), (6, .inl (nI ((st % 8192) + 1))), (5, .inr (.inr (some cq3))), (4, .inl (nI (hln fc st))), (3, .inl (2 : Int32)), (0, .inr (.inr (some 113))), (1, .inl (nI id)), (2, .inr (.inr (some 152)))], [], H)) (C := []) rfl trivial ?_
  show mu_W _ _ (47, [(7, .inl (nI 0)), (6, .inl (nI ((st % 8192) + 1))), (5, .inr (.inr (some cq3))), (4, .inl (nI (hln fc st))), (3, .inl (2 : Int32)), (0, .inr (.inr (some 113))), (1, .inl (nI id)), (2, .inr (.inr (some 152)))], [], H) _
  refine mw_sub (L' := [(7, .inl (nI 0)), (0, .inr (.inr (some 113))), (1, .inl (nI id)), (2, .inr (.inr (some 152))), (3, .inl (2 : Int32)), (4, .inl (nI (hln fc st))), (5, .inr (.inr (some cq3))), (6, .inl (nI ((st % 8192) + 1)))]) (by simp) ?_
  refine mw_down (α := Nat) (fun zs => (47, [(7, .inl (nI zs)), (0, .inr (.inr (some 113))), (1, .inl (nI id)), (2, .inr (.inr (some 152))), (3, .inl (2 : Int32)), (4, .inl (nI (hln fc st))), (5, .inr (.inr (some cq3))), (6, .inl (nI ((st % 8192) + 1)))], [], H)) (fun zs => hln fc st - zs) (fun zs => (zs ≤ hln fc st) ∧ (∀ t, t / 64 < zs → S t = true → bts (U.2.2.2.2.1 152) t = false)) (fun zs hza iha => ?_) 0 ⟨(show 0 ≤ hln fc st from (by omega)), (show ∀ t, t / 64 < 0 → S t = true → bts (U.2.2.2.2.1 152) t = false from (fun _ h1 => absurd h1 (Nat.not_lt_zero _)))⟩
  obtain ⟨y, rfl⟩ : ∃ y, y = zs := ⟨zs, rfl⟩
  obtain ⟨hw, hN⟩ := hza
  have hw : y ≤ hln fc st := hw
  have hN : ∀ t, t / 64 < y → S t = true → bts (U.2.2.2.2.1 152) t = false := hN
  show mu_W _ _ (47, [(7, .inl (nI y)), (0, .inr (.inr (some 113))), (1, .inl (nI id)), (2, .inr (.inr (some 152))), (3, .inl (2 : Int32)), (4, .inl (nI (hln fc st))), (5, .inr (.inr (some cq3))), (6, .inl (nI ((st % 8192) + 1)))], [], H) _
  refine mw_go mu_g241 (k := 2) (f1 := (51, [(7, .inl (nI y)), (0, .inr (.inr (some 113))), (1, .inl (nI id)), (2, .inr (.inr (some 152))), (3, .inl (2 : Int32)), (4, .inl (nI (hln fc st))), (5, .inr (.inr (some cq3))), (6, .inl (nI ((st % 8192) + 1)))], [.inl (nI (hln fc st)), .inl (nI y)], H)) (C := []) rfl trivial ?_
  refine mw_if (P := (nI y) < (nI (hln fc st))) (a := 54) (b := 134) (fun _ => rfl) trivial (fun h4 => ?_) (fun h4 => ?_)
  · -- 54: (nI y) < (nI (hln fc st))
    have nh4 : y < (hln fc st) := (nI_ltI (by omega) (by omega)).mp (show nI y < nI (hln fc st) from h4)
    refine mw_go mu_g241 (k := 2) (f1 := (56, [(7, .inl (nI y)), (0, .inr (.inr (some 113))), (1, .inl (nI id)), (2, .inr (.inr (some 152))), (3, .inl (2 : Int32)), (4, .inl (nI (hln fc st))), (5, .inr (.inr (some cq3))), (6, .inl (nI ((st % 8192) + 1)))], [.inl (2 : Int32), .inl (2 : Int32)], H)) (C := []) rfl trivial ?_
    refine mw_if (P := (2 : Int32) = (2 : Int32)) (a := 59) (b := 79) (fun _ => rfl) trivial (fun h5 => ?_) (fun h5 => absurd (by decide) h5)
    refine mw_go mu_g241 (k := 4) (f1 := (66, [(7, .inl (nI y)), (0, .inr (.inr (some 113))), (1, .inl (nI id)), (2, .inr (.inr (some 152))), (3, .inl (2 : Int32)), (4, .inl (nI (hln fc st))), (5, .inr (.inr (some cq3))), (6, .inl (nI ((st % 8192) + 1)))], [.inl ((nI ((st % 8192) + 1)) + (nI y)), .inr (.inr (some cq3))], H)) (C := []) rfl trivial ?_
    rw [(show ((nI ((st % 8192) + 1)) + (nI y)) = (nI (((st % 8192) + 1) + y)) from (nI_add ((st % 8192) + 1) y))]
    refine mw_go mu_g241 (k := 1) (f1 := (67, [(7, .inl (nI y)), (0, .inr (.inr (some 113))), (1, .inl (nI id)), (2, .inr (.inr (some 152))), (3, .inl (2 : Int32)), (4, .inl (nI (hln fc st))), (5, .inr (.inr (some cq3))), (6, .inl (nI ((st % 8192) + 1)))], [.inr (.inl (mu_l H cq3 (nI (((st % 8192) + 1) + y)).toNatClampNeg))], H)) (C := [mu_isr H (some cq3) 102, vp_in (nI (((st % 8192) + 1) + y)) (mu_n H cq3)]) rfl (show (mu_isr H (some cq3) 102) ∧ (vp_in (nI (((st % 8192) + 1) + y)) (mu_n H cq3)) from ⟨kb3.r, (by rw [kc3]; exact vp_in_nI (n := ((st % 8192) + 1) + y) (by omega) (by decide))⟩) ?_
    rw [(show (mu_l H cq3 (nI (((st % 8192) + 1) + y)).toNatClampNeg) = (fc (((st % 8192) + 1) + y)) from (congrArg (mu_l H cq3) (show (nI (((st % 8192) + 1) + y)).toNatClampNeg = ((st % 8192) + 1) + y from nI_clamp (by omega))).trans (kd3 (((st % 8192) + 1) + y)))]
    refine mw_go mu_g241 (k := 3) (f1 := (71, [(7, .inl (nI y)), (0, .inr (.inr (some 113))), (1, .inl (nI id)), (2, .inr (.inr (some 152))), (3, .inl (2 : Int32)), (4, .inl (nI (hln fc st))), (5, .inr (.inr (some cq3))), (6, .inl (nI ((st % 8192) + 1)))], [.inr (.inl (mu_l H 152 (nI y).toNatClampNeg)), .inr (.inl (fc (((st % 8192) + 1) + y)))], H)) (C := [mu_isr H (some 152) 102, vp_in (nI y) (mu_n H 152)]) rfl (show (mu_isr H (some 152) 102) ∧ (vp_in (nI y) (mu_n H 152)) from ⟨((h.1.1.a (p := 152) (x := (102, 256)) rfl).1).r, (by rw [show mu_n H 152 = 256 from (h.1.1.a (p := 152) (x := (102, 256)) rfl).2]; exact vp_in_nI (n := y) (by omega) (by decide))⟩) ?_
    rw [(show (mu_l H 152 (nI y).toNatClampNeg) = (U.2.2.2.2.1 152) y from (congrArg (mu_l H 152) (show (nI y).toNatClampNeg = y from nI_clamp (by omega))).trans ((ud_l (m := m) (p := 152) (i := y) e rfl).trans (congrFun (show U.2.2.2.2.1 152 = (U.2.2.2.2.1 152) from rfl) y)))]
    refine mw_go mu_g241 (k := 3) (f1 := (74, [(7, .inl (nI y)), (0, .inr (.inr (some 113))), (1, .inl (nI id)), (2, .inr (.inr (some 152))), (3, .inl (2 : Int32)), (4, .inl (nI (hln fc st))), (5, .inr (.inr (some cq3))), (6, .inl (nI ((st % 8192) + 1)))], [.inl (lg_cmp ((fc (((st % 8192) + 1) + y)) &&& ((U.2.2.2.2.1 152) y)) (0 : Int64))], H)) (C := []) rfl trivial ?_
    refine mw_if (P := (lg_cmp ((fc (((st % 8192) + 1) + y)) &&& ((U.2.2.2.2.1 152) y)) (0 : Int64)) = 0) (a := 128) (b := 77) (fun _ => rfl) trivial (fun h6 => ?_) (fun h6 => ?_)
    · -- 128: (lg_cmp ((fc (((st % 8192) + 1) + y)) &&& ((U.2.2.2.2.1 152) y)) (0 : Int64)) = 0
      refine mw_go mu_g241 (k := 1) (f1 := (131, [(7, .inl ((nI y) + 1)), (0, .inr (.inr (some 113))), (1, .inl (nI id)), (2, .inr (.inr (some 152))), (3, .inl (2 : Int32)), (4, .inl (nI (hln fc st))), (5, .inr (.inr (some cq3))), (6, .inl (nI ((st % 8192) + 1)))], [], H)) (C := []) rfl trivial ?_
      rw [(show ((nI y) + 1) = (nI (y + 1)) from (nI_add y 1))]
      refine mw_go mu_g241 (k := 1) (f1 := (47, [(7, .inl (nI (y + 1))), (0, .inr (.inr (some 113))), (1, .inl (nI id)), (2, .inr (.inr (some 152))), (3, .inl (2 : Int32)), (4, .inl (nI (hln fc st))), (5, .inr (.inr (some cq3))), (6, .inl (nI ((st % 8192) + 1)))], [], H)) (C := []) rfl trivial ?_
      exact mw_sub (by simp) (iha (y + 1) ⟨(show (y + 1) ≤ hln fc st from (by omega)), (show ∀ t, t / 64 < (y + 1) → S t = true → bts (U.2.2.2.2.1 152) t = false from (m2_no (L := (U.2.2.2.2.1 152)) hm3 hN h6))⟩ (by show hln fc st - (y + 1) < hln fc st - y; omega))
    · -- 77: not (lg_cmp ((fc (((st % 8192) + 1) + y)) &&& ((U.2.2.2.2.1 152) y)) (0 : Int64)) = 0
      refine mw_go mu_g241 (k := 1) (f1 := (78, [(7, .inl (nI y)), (0, .inr (.inr (some 113))), (1, .inl (nI id)), (2, .inr (.inr (some 152))), (3, .inl (2 : Int32)), (4, .inl (nI (hln fc st))), (5, .inr (.inr (some cq3))), (6, .inl (nI ((st % 8192) + 1)))], [.inl (1 : Int32)], H)) (C := []) rfl trivial ?_
      exact mw_of (fun _ => mu_ret rfl (Or.inr rfl) ⟨(1 : Int32), H, rfl, Or.inl ⟨rfl, m2_yes (L := (U.2.2.2.2.1 152)) hm3 (by omega) h6, rfl⟩⟩)
  · -- 134: not (nI y) < (nI (hln fc st))
    have nh4 : ¬ y < (hln fc st) := fun z => h4 (show nI y < nI (hln fc st) from (nI_ltI (by omega) (by omega)).mpr z)
    refine mw_go mu_g241 (k := 1) (f1 := (135, [(7, .inl (nI y)), (0, .inr (.inr (some 113))), (1, .inl (nI id)), (2, .inr (.inr (some 152))), (3, .inl (2 : Int32)), (4, .inl (nI (hln fc st))), (5, .inr (.inr (some cq3))), (6, .inl (nI ((st % 8192) + 1)))], [.inl (0 : Int32)], H)) (C := []) rfl trivial ?_
    exact mw_of (fun _ => mu_ret rfl (Or.inl rfl) ⟨(0 : Int32), H, rfl, Or.inr ⟨rfl, (fun t k => hN t (by have := ((hm3 t).mp k).1; omega) k), rfl⟩⟩)
theorem st_mts (h : um m H) (e : ud m H = U) (hs : sat U id st fc) (hz : stz fc st S) (hS : ∀ x, S x = true → x < 16384) : mu_TI (mu_D (d + 3)) 241 [.inr (.inr (some 113)), .inl (nI id), .inr (.inr (some 152))] H (fun x H1 => (x = 1 ∧ (∃ t, S t = true ∧ bts (U.2.2.2.2.1 152) t = true) ∧ H1 = H) ∨ (x = 0 ∧ (∀ t, S t = true → bts (U.2.2.2.2.1 152) t = false) ∧ H1 = H)) := by
  have kf := hz.1
  by_cases f0 : hfm fc st = 0
  · exact st_mts0 h e hs hz hS f0
  · by_cases f1 : hfm fc st = 1
    · exact st_mts1 h e hs hz hS f1
    · exact st_mts2 h e hs hz hS (by omega)
/-- PathProver$Sets.firstWord(I)I -/
abbrev mu_m244 : ev_M := (2, (some .int), [], ev_b244)
theorem mu_g244 : mu_good mu_m244 := mu_goodk ev_k244
theorem st_fw0 (h : um m H) (e : ud m H = U) (hs : sat U id st fc) (hz : stz fc st S) (hS : ∀ x, S x = true → x < 16384) (hf : hfm fc st = 0) : mu_TI (mu_D (d + 2)) 244 [.inr (.inr (some 113)), .inl (nI id)] H (fun x H1 => (∃ v, x = nI v ∧ v ≤ 255 ∧ (∀ t, S t = true → v ≤ t / 64) ∧ (hfm fc st = 2 → v = 0)) ∧ H1 = H) := by
  obtain ⟨⟨hi1, hi2⟩, hst, hst2, hch⟩ := (show sat U id st fc from hs)
  obtain ⟨hz1, hz2, hz3, hz4, hz5⟩ := hz
  obtain ⟨hm1, hm2, hm3⟩ := hz3 hf
  refine mu_meth (M := mu_m244) rfl rfl ?_
  refine mw_ht (mu_fn_of (show [0, 1].Nodup by decide)) ?_
  refine mw_go mu_g244 (k := 2) (f1 := (2, [(0, .inr (.inr (some 113))), (1, .inl (nI id))], [.inl (nI id), .inr (.inr (some 113))], H)) (C := []) rfl trivial ?_
  refine mw_cIe (fun _ => rfl) (show mu_is H (some 113) 11 from (h.1.1.is rfl)) (st_form (d := d) h e hs) ?_
  rw [show nI (hfm fc st) = (0 : Int32) from congrArg nI hf]
  refine mw_go mu_g244 (k := 1) (f1 := (6, [(0, .inr (.inr (some 113))), (1, .inl (nI id))], [.inl (2 : Int32), .inl (0 : Int32)], H)) (C := []) rfl trivial ?_
  refine mw_if (P := (0 : Int32) = (2 : Int32)) (a := 17) (b := 9) (fun _ => rfl) trivial (fun h2 => absurd h2 (by decide)) (fun h2 => ?_)
  refine mw_go mu_g244 (k := 2) (f1 := (11, [(0, .inr (.inr (some 113))), (1, .inl (nI id))], [.inl (nI id), .inr (.inr (some 113))], H)) (C := []) rfl trivial ?_
  refine mw_cIe (fun _ => rfl) (show mu_is H (some 113) 11 from (h.1.1.is rfl)) (st_parts (d := d) h e hs) ?_
  rw [show nI (hpt fc st) = nI (hsz fc st) from congrArg nI (by unfold hpt; rw [hf]; rfl)]
  have kl := hln_lt (fc := fc) (st := st)
  have kz := hsz_lt (fc := fc) (st := st)
  refine mw_if (P := (nI (hsz fc st)) = 0) (a := 17) (b := 21) (fun _ => rfl) trivial (fun h4 => ?_) (fun h4 => ?_)
  · -- 17: (nI (hsz fc st)) = 0
    have nh4 : (hsz fc st) = 0 := (nI_eq (by omega) (by omega)).mp (show nI (hsz fc st) = nI 0 from h4)
    refine mw_go mu_g244 (k := 2) (f1 := (30, [(0, .inr (.inr (some 113))), (1, .inl (nI id))], [.inl (0 : Int32)], H)) (C := []) rfl trivial ?_
    exact mw_of (fun _ => mu_ret rfl trivial ⟨(0 : Int32), H, rfl, ⟨0, rfl, by omega, fun _ _ => Nat.zero_le _, fun _ => rfl⟩, rfl⟩)
  · -- 21: not (nI (hsz fc st)) = 0
    have nh4 : ¬ (hsz fc st) = 0 := fun z => h4 (show nI (hsz fc st) = nI 0 from (nI_eq (by omega) (by omega)).mpr z)
    refine mw_go mu_g244 (k := 3) (f1 := (24, [(0, .inr (.inr (some 113))), (1, .inl (nI id))], [.inl (0 : Int32), .inl (nI id), .inr (.inr (some 113))], H)) (C := []) rfl trivial ?_
    refine mw_cIe (fun _ => rfl) (show mu_is H (some 113) 11 from (h.1.1.is rfl)) (st_num (d := d) (p := 0) h e hs (by omega) (by omega)) ?_
    have kn5 : nmzU fc st 0 < 16384 := hS _ ((hm3.2 _).mpr ⟨0, by omega, by rw [show 1 * (0) = 0 by omega]; exact Nat.le_refl _, by rw [show 1 * (0) + 1 - 1 = 0 by omega]; exact Nat.le_refl _⟩)
    refine mw_go mu_g244 (k := 2) (f1 := (30, [(0, .inr (.inr (some 113))), (1, .inl (nI id))], [.inl ((nI (nmzU fc st 0)) >>> ((6 : Int32) &&& 31))], H)) (C := []) rfl trivial ?_
    rw [(show ((nI (nmzU fc st 0)) >>> ((6 : Int32) &&& 31)) = (nI ((nmzU fc st 0) / 64)) from (nI_shr6 (a := nmzU fc st 0) (by omega)))]
    exact mw_of (fun _ => mu_ret rfl trivial ⟨(nI ((nmzU fc st 0) / 64)), H, rfl, ⟨_, rfl, by omega, fun t k => fw_le hm3 k, fun z => absurd z (by omega)⟩, rfl⟩)
theorem st_fw1 (h : um m H) (e : ud m H = U) (hs : sat U id st fc) (hz : stz fc st S) (hS : ∀ x, S x = true → x < 16384) (hf : hfm fc st = 1) : mu_TI (mu_D (d + 2)) 244 [.inr (.inr (some 113)), .inl (nI id)] H (fun x H1 => (∃ v, x = nI v ∧ v ≤ 255 ∧ (∀ t, S t = true → v ≤ t / 64) ∧ (hfm fc st = 2 → v = 0)) ∧ H1 = H) := by
  obtain ⟨⟨hi1, hi2⟩, hst, hst2, hch⟩ := (show sat U id st fc from hs)
  obtain ⟨hz1, hz2, hz3, hz4, hz5⟩ := hz
  obtain ⟨hm2, hm3⟩ := hz4 hf
  refine mu_meth (M := mu_m244) rfl rfl ?_
  refine mw_ht (mu_fn_of (show [0, 1].Nodup by decide)) ?_
  refine mw_go mu_g244 (k := 2) (f1 := (2, [(0, .inr (.inr (some 113))), (1, .inl (nI id))], [.inl (nI id), .inr (.inr (some 113))], H)) (C := []) rfl trivial ?_
  refine mw_cIe (fun _ => rfl) (show mu_is H (some 113) 11 from (h.1.1.is rfl)) (st_form (d := d) h e hs) ?_
  rw [show nI (hfm fc st) = (1 : Int32) from congrArg nI hf]
  refine mw_go mu_g244 (k := 1) (f1 := (6, [(0, .inr (.inr (some 113))), (1, .inl (nI id))], [.inl (2 : Int32), .inl (1 : Int32)], H)) (C := []) rfl trivial ?_
  refine mw_if (P := (1 : Int32) = (2 : Int32)) (a := 17) (b := 9) (fun _ => rfl) trivial (fun h2 => absurd h2 (by decide)) (fun h2 => ?_)
  refine mw_go mu_g244 (k := 2) (f1 := (11, [(0, .inr (.inr (some 113))), (1, .inl (nI id))], [.inl (nI id), .inr (.inr (some 113))], H)) (C := []) rfl trivial ?_
  refine mw_cIe (fun _ => rfl) (show mu_is H (some 113) 11 from (h.1.1.is rfl)) (st_parts (d := d) h e hs) ?_
  rw [show nI (hpt fc st) = nI (2 * hln fc st) from congrArg nI (by unfold hpt; rw [hf]; rfl)]
  have kl := hln_lt (fc := fc) (st := st)
  have kz := hsz_lt (fc := fc) (st := st)
  refine mw_if (P := (nI (2 * hln fc st)) = 0) (a := 17) (b := 21) (fun _ => rfl) trivial (fun h4 => ?_) (fun h4 => ?_)
  · -- 17: (nI (2 * hln fc st)) = 0
    have nh4 : (2 * hln fc st) = 0 := (nI_eq (by omega) (by omega)).mp (show nI (2 * hln fc st) = nI 0 from h4)
    refine mw_go mu_g244 (k := 2) (f1 := (30, [(0, .inr (.inr (some 113))), (1, .inl (nI id))], [.inl (0 : Int32)], H)) (C := []) rfl trivial ?_
    exact mw_of (fun _ => mu_ret rfl trivial ⟨(0 : Int32), H, rfl, ⟨0, rfl, by omega, fun _ _ => Nat.zero_le _, fun _ => rfl⟩, rfl⟩)
  · -- 21: not (nI (2 * hln fc st)) = 0
    have nh4 : ¬ (2 * hln fc st) = 0 := fun z => h4 (show nI (2 * hln fc st) = nI 0 from (nI_eq (by omega) (by omega)).mpr z)
    refine mw_go mu_g244 (k := 3) (f1 := (24, [(0, .inr (.inr (some 113))), (1, .inl (nI id))], [.inl (0 : Int32), .inl (nI id), .inr (.inr (some 113))], H)) (C := []) rfl trivial ?_
    refine mw_cIe (fun _ => rfl) (show mu_is H (some 113) 11 from (h.1.1.is rfl)) (st_num (d := d) (p := 0) h e hs (by omega) (by omega)) ?_
    have kn5 : nmzU fc st 0 < 16384 := hS _ ((hm3.2 _).mpr ⟨0, by omega, Nat.le_refl _, hm2 0 (by omega)⟩)
    refine mw_go mu_g244 (k := 2) (f1 := (30, [(0, .inr (.inr (some 113))), (1, .inl (nI id))], [.inl ((nI (nmzU fc st 0)) >>> ((6 : Int32) &&& 31))], H)) (C := []) rfl trivial ?_
    rw [(show ((nI (nmzU fc st 0)) >>> ((6 : Int32) &&& 31)) = (nI ((nmzU fc st 0) / 64)) from (nI_shr6 (a := nmzU fc st 0) (by omega)))]
    exact mw_of (fun _ => mu_ret rfl trivial ⟨(nI ((nmzU fc st 0) / 64)), H, rfl, ⟨_, rfl, by omega, fun t k => fw_le hm3 k, fun z => absurd z (by omega)⟩, rfl⟩)
theorem st_fw2 (h : um m H) (e : ud m H = U) (hs : sat U id st fc) (hz : stz fc st S) (hS : ∀ x, S x = true → x < 16384) (hf : hfm fc st = 2) : mu_TI (mu_D (d + 2)) 244 [.inr (.inr (some 113)), .inl (nI id)] H (fun x H1 => (∃ v, x = nI v ∧ v ≤ 255 ∧ (∀ t, S t = true → v ≤ t / 64) ∧ (hfm fc st = 2 → v = 0)) ∧ H1 = H) := by
  obtain ⟨⟨hi1, hi2⟩, hst, hst2, hch⟩ := (show sat U id st fc from hs)
  obtain ⟨hz1, hz2, hz3, hz4, hz5⟩ := hz
  have hm3 := hz5 hf
  refine mu_meth (M := mu_m244) rfl rfl ?_
  refine mw_ht (mu_fn_of (show [0, 1].Nodup by decide)) ?_
  refine mw_go mu_g244 (k := 2) (f1 := (2, [(0, .inr (.inr (some 113))), (1, .inl (nI id))], [.inl (nI id), .inr (.inr (some 113))], H)) (C := []) rfl trivial ?_
  refine mw_cIe (fun _ => rfl) (show mu_is H (some 113) 11 from (h.1.1.is rfl)) (st_form (d := d) h e hs) ?_
  rw [show nI (hfm fc st) = (2 : Int32) from congrArg nI hf]
  refine mw_go mu_g244 (k := 1) (f1 := (6, [(0, .inr (.inr (some 113))), (1, .inl (nI id))], [.inl (2 : Int32), .inl (2 : Int32)], H)) (C := []) rfl trivial ?_
  refine mw_if (P := (2 : Int32) = (2 : Int32)) (a := 17) (b := 9) (fun _ => rfl) trivial (fun h2 => ?_) (fun h2 => absurd (by decide) h2)
  refine mw_go mu_g244 (k := 2) (f1 := (30, [(0, .inr (.inr (some 113))), (1, .inl (nI id))], [.inl (0 : Int32)], H)) (C := []) rfl trivial ?_
  exact mw_of (fun _ => mu_ret rfl trivial ⟨(0 : Int32), H, rfl, ⟨0, rfl, by omega, fun _ _ => Nat.zero_le _, fun _ => rfl⟩, rfl⟩)
theorem st_fw (h : um m H) (e : ud m H = U) (hs : sat U id st fc) (hz : stz fc st S) (hS : ∀ x, S x = true → x < 16384) : mu_TI (mu_D (d + 2)) 244 [.inr (.inr (some 113)), .inl (nI id)] H (fun x H1 => (∃ v, x = nI v ∧ v ≤ 255 ∧ (∀ t, S t = true → v ≤ t / 64) ∧ (hfm fc st = 2 → v = 0)) ∧ H1 = H) := by
  have kf := hz.1
  by_cases f0 : hfm fc st = 0
  · exact st_fw0 h e hs hz hS f0
  · by_cases f1 : hfm fc st = 1
    · exact st_fw1 h e hs hz hS f1
    · exact st_fw2 h e hs hz hS (by omega)
/-- PathProver$Sets.endWord(I)I -/
abbrev mu_m245 : ev_M := (4, (some .int), [], ev_b245)
theorem mu_g245 : mu_good mu_m245 := mu_goodk ev_k245
theorem st_ew0 (h : um m H) (e : ud m H = U) (hs : sat U id st fc) (hz : stz fc st S) (hS : ∀ x, S x = true → x < 16384) (hf : hfm fc st = 0) : mu_TI (mu_D (d + 2)) 245 [.inr (.inr (some 113)), .inl (nI id)] H (fun x H1 => (∃ v, x = nI v ∧ v ≤ 256 ∧ (∀ t, S t = true → t / 64 < v) ∧ (hfm fc st = 2 → v = hln fc st)) ∧ H1 = H) := by
  obtain ⟨⟨hi1, hi2⟩, hst, hst2, hch⟩ := (show sat U id st fc from hs)
  obtain ⟨hz1, hz2, hz3, hz4, hz5⟩ := hz
  obtain ⟨hm1, hm2, hm3⟩ := hz3 hf
  refine mu_meth (M := mu_m245) rfl rfl ?_
  refine mw_ht (mu_fn_of (show [0, 1].Nodup by decide)) ?_
  refine mw_go mu_g245 (k := 2) (f1 := (2, [(0, .inr (.inr (some 113))), (1, .inl (nI id))], [.inl (nI id), .inr (.inr (some 113))], H)) (C := []) rfl trivial ?_
  refine mw_cIe (fun _ => rfl) (show mu_is H (some 113) 11 from (h.1.1.is rfl)) (st_form (d := d) h e hs) ?_
  rw [show nI (hfm fc st) = (0 : Int32) from congrArg nI hf]
  refine mw_go mu_g245 (k := 3) (f1 := (8, [(2, .inl (0 : Int32)), (0, .inr (.inr (some 113))), (1, .inl (nI id))], [.inl (nI id), .inr (.inr (some 113))], H)) (C := []) rfl trivial ?_
  refine mw_cIe (fun _ => rfl) (show mu_is H (some 113) 11 from (h.1.1.is rfl)) (st_parts (d := d) h e hs) ?_
  rw [show nI (hpt fc st) = nI (hsz fc st) from congrArg nI (by unfold hpt; rw [hf]; rfl)]
  have kl := hln_lt (fc := fc) (st := st)
  have kz := hsz_lt (fc := fc) (st := st)
  refine mw_go mu_g245 (k := 3) (f1 := (14, [(3, .inl (nI (hsz fc st))), (2, .inl (0 : Int32)), (0, .inr (.inr (some 113))), (1, .inl (nI id))], [.inl (2 : Int32), .inl (0 : Int32)], H)) (C := []) rfl trivial ?_
  refine mw_if (P := (0 : Int32) = (2 : Int32)) (a := 21) (b := 17) (fun _ => rfl) trivial (fun h3 => absurd h3 (by decide)) (fun h3 => ?_)
  refine mw_go mu_g245 (k := 1) (f1 := (18, [(3, .inl (nI (hsz fc st))), (2, .inl (0 : Int32)), (0, .inr (.inr (some 113))), (1, .inl (nI id))], [.inl (nI (hsz fc st))], H)) (C := []) rfl trivial ?_
  refine mw_if (P := (nI (hsz fc st)) = 0) (a := 21) (b := 23) (fun _ => rfl) trivial (fun h4 => ?_) (fun h4 => ?_)
  · -- 21: (nI (hsz fc st)) = 0
    have nh4 : (hsz fc st) = 0 := (nI_eq (by omega) (by omega)).mp (show nI (hsz fc st) = nI 0 from h4)
    refine mw_go mu_g245 (k := 1) (f1 := (22, [(3, .inl (nI (hsz fc st))), (2, .inl (0 : Int32)), (0, .inr (.inr (some 113))), (1, .inl (nI id))], [.inl (nI (hsz fc st))], H)) (C := []) rfl trivial ?_
    exact mw_of (fun _ => mu_ret rfl trivial ⟨(nI (hsz fc st)), H, rfl, ⟨_, rfl, by omega, fun t k => (by obtain ⟨i, k1, -⟩ := (hm3.2 t).mp k; omega), fun z => absurd z (by omega)⟩, rfl⟩)
  · -- 23: not (nI (hsz fc st)) = 0
    have nh4 : ¬ (hsz fc st) = 0 := fun z => h4 (show nI (hsz fc st) = nI 0 from (nI_eq (by omega) (by omega)).mpr z)
    refine mw_go mu_g245 (k := 3) (f1 := (26, [(3, .inl (nI (hsz fc st))), (2, .inl (0 : Int32)), (0, .inr (.inr (some 113))), (1, .inl (nI id))], [.inl (0 : Int32), .inl (nI id), .inr (.inr (some 113))], H)) (C := []) rfl trivial ?_
    refine mw_if (P := (0 : Int32) = 0) (a := 29) (b := 35) (fun _ => rfl) trivial (fun h5 => ?_) (fun h5 => absurd (by decide) h5)
    refine mw_go mu_g245 (k := 3) (f1 := (32, [(3, .inl (nI (hsz fc st))), (2, .inl (0 : Int32)), (0, .inr (.inr (some 113))), (1, .inl (nI id))], [.inl ((nI (hsz fc st)) - (1 : Int32)), .inl (nI id), .inr (.inr (some 113))], H)) (C := []) rfl trivial ?_
    rw [(show ((nI (hsz fc st)) - (1 : Int32)) = (nI ((hsz fc st) - 1)) from (nI_sub (a := hsz fc st) (b := 1) (by omega)))]
    refine mw_go mu_g245 (k := 1) (f1 := (40, [(3, .inl (nI (hsz fc st))), (2, .inl (0 : Int32)), (0, .inr (.inr (some 113))), (1, .inl (nI id))], [.inl (nI ((hsz fc st) - 1)), .inl (nI id), .inr (.inr (some 113))], H)) (C := []) rfl trivial ?_
    refine mw_cIe (fun _ => rfl) (show mu_is H (some 113) 11 from (h.1.1.is rfl)) (st_num (d := d) (p := (hsz fc st) - 1) h e hs (by omega) (by omega)) ?_
    have kn6 : nmzU fc st ((hsz fc st) - 1) < 16384 := hS _ ((hm3.2 _).mpr ⟨hsz fc st - 1, by omega, by rw [show 1 * (hsz fc st - 1) = (hsz fc st) - 1 by omega]; exact Nat.le_refl _, by rw [show 1 * (hsz fc st - 1) + 1 - 1 = (hsz fc st) - 1 by omega]; exact Nat.le_refl _⟩)
    refine mw_go mu_g245 (k := 2) (f1 := (46, [(3, .inl (nI (hsz fc st))), (2, .inl (0 : Int32)), (0, .inr (.inr (some 113))), (1, .inl (nI id))], [.inl ((nI (nmzU fc st ((hsz fc st) - 1))) >>> ((6 : Int32) &&& 31))], H)) (C := []) rfl trivial ?_
    rw [(show ((nI (nmzU fc st ((hsz fc st) - 1))) >>> ((6 : Int32) &&& 31)) = (nI ((nmzU fc st ((hsz fc st) - 1)) / 64)) from (nI_shr6 (a := nmzU fc st ((hsz fc st) - 1)) (by omega)))]
    refine mw_go mu_g245 (k := 2) (f1 := (48, [(3, .inl (nI (hsz fc st))), (2, .inl (0 : Int32)), (0, .inr (.inr (some 113))), (1, .inl (nI id))], [.inl ((nI ((nmzU fc st ((hsz fc st) - 1)) / 64)) + (1 : Int32))], H)) (C := []) rfl trivial ?_
    rw [(show ((nI ((nmzU fc st ((hsz fc st) - 1)) / 64)) + (1 : Int32)) = (nI (((nmzU fc st ((hsz fc st) - 1)) / 64) + 1)) from (nI_add ((nmzU fc st ((hsz fc st) - 1)) / 64) 1))]
    exact mw_of (fun _ => mu_ret rfl trivial ⟨(nI (((nmzU fc st ((hsz fc st) - 1)) / 64) + 1)), H, rfl, ⟨_, rfl, by omega, fun t k => ew_lt hm3 (by omega) k, fun z => absurd z (by omega)⟩, rfl⟩)
theorem st_ew1 (h : um m H) (e : ud m H = U) (hs : sat U id st fc) (hz : stz fc st S) (hS : ∀ x, S x = true → x < 16384) (hf : hfm fc st = 1) : mu_TI (mu_D (d + 2)) 245 [.inr (.inr (some 113)), .inl (nI id)] H (fun x H1 => (∃ v, x = nI v ∧ v ≤ 256 ∧ (∀ t, S t = true → t / 64 < v) ∧ (hfm fc st = 2 → v = hln fc st)) ∧ H1 = H) := by
  obtain ⟨⟨hi1, hi2⟩, hst, hst2, hch⟩ := (show sat U id st fc from hs)
  obtain ⟨hz1, hz2, hz3, hz4, hz5⟩ := hz
  obtain ⟨hm2, hm3⟩ := hz4 hf
  refine mu_meth (M := mu_m245) rfl rfl ?_
  refine mw_ht (mu_fn_of (show [0, 1].Nodup by decide)) ?_
  refine mw_go mu_g245 (k := 2) (f1 := (2, [(0, .inr (.inr (some 113))), (1, .inl (nI id))], [.inl (nI id), .inr (.inr (some 113))], H)) (C := []) rfl trivial ?_
  refine mw_cIe (fun _ => rfl) (show mu_is H (some 113) 11 from (h.1.1.is rfl)) (st_form (d := d) h e hs) ?_
  rw [show nI (hfm fc st) = (1 : Int32) from congrArg nI hf]
  refine mw_go mu_g245 (k := 3) (f1 := (8, [(2, .inl (1 : Int32)), (0, .inr (.inr (some 113))), (1, .inl (nI id))], [.inl (nI id), .inr (.inr (some 113))], H)) (C := []) rfl trivial ?_
  refine mw_cIe (fun _ => rfl) (show mu_is H (some 113) 11 from (h.1.1.is rfl)) (st_parts (d := d) h e hs) ?_
  rw [show nI (hpt fc st) = nI (2 * hln fc st) from congrArg nI (by unfold hpt; rw [hf]; rfl)]
  have kl := hln_lt (fc := fc) (st := st)
  have kz := hsz_lt (fc := fc) (st := st)
  refine mw_go mu_g245 (k := 3) (f1 := (14, [(3, .inl (nI (2 * hln fc st))), (2, .inl (1 : Int32)), (0, .inr (.inr (some 113))), (1, .inl (nI id))], [.inl (2 : Int32), .inl (1 : Int32)], H)) (C := []) rfl trivial ?_
  refine mw_if (P := (1 : Int32) = (2 : Int32)) (a := 21) (b := 17) (fun _ => rfl) trivial (fun h3 => absurd h3 (by decide)) (fun h3 => ?_)
  refine mw_go mu_g245 (k := 1) (f1 := (18, [(3, .inl (nI (2 * hln fc st))), (2, .inl (1 : Int32)), (0, .inr (.inr (some 113))), (1, .inl (nI id))], [.inl (nI (2 * hln fc st))], H)) (C := []) rfl trivial ?_
  refine mw_if (P := (nI (2 * hln fc st)) = 0) (a := 21) (b := 23) (fun _ => rfl) trivial (fun h4 => ?_) (fun h4 => ?_)
  · -- 21: (nI (2 * hln fc st)) = 0
    have nh4 : (2 * hln fc st) = 0 := (nI_eq (by omega) (by omega)).mp (show nI (2 * hln fc st) = nI 0 from h4)
    refine mw_go mu_g245 (k := 1) (f1 := (22, [(3, .inl (nI (2 * hln fc st))), (2, .inl (1 : Int32)), (0, .inr (.inr (some 113))), (1, .inl (nI id))], [.inl (nI (2 * hln fc st))], H)) (C := []) rfl trivial ?_
    exact mw_of (fun _ => mu_ret rfl trivial ⟨(nI (2 * hln fc st)), H, rfl, ⟨_, rfl, by omega, fun t k => (by obtain ⟨i, k1, -⟩ := (hm3.2 t).mp k; omega), fun z => absurd z (by omega)⟩, rfl⟩)
  · -- 23: not (nI (2 * hln fc st)) = 0
    have nh4 : ¬ (2 * hln fc st) = 0 := fun z => h4 (show nI (2 * hln fc st) = nI 0 from (nI_eq (by omega) (by omega)).mpr z)
    refine mw_go mu_g245 (k := 3) (f1 := (26, [(3, .inl (nI (2 * hln fc st))), (2, .inl (1 : Int32)), (0, .inr (.inr (some 113))), (1, .inl (nI id))], [.inl (1 : Int32), .inl (nI id), .inr (.inr (some 113))], H)) (C := []) rfl trivial ?_
    refine mw_if (P := (1 : Int32) = 0) (a := 29) (b := 35) (fun _ => rfl) trivial (fun h5 => absurd h5 (by decide)) (fun h5 => ?_)
    refine mw_go mu_g245 (k := 3) (f1 := (38, [(3, .inl (nI (2 * hln fc st))), (2, .inl (1 : Int32)), (0, .inr (.inr (some 113))), (1, .inl (nI id))], [.inl ((2 : Int32) * (nI (2 * hln fc st))), .inl (nI id), .inr (.inr (some 113))], H)) (C := []) rfl trivial ?_
    rw [(show ((2 : Int32) * (nI (2 * hln fc st))) = (nI (2 * (2 * hln fc st))) from (nI_mul (a := 2) (b := 2 * hln fc st)))]
    refine mw_go mu_g245 (k := 2) (f1 := (40, [(3, .inl (nI (2 * hln fc st))), (2, .inl (1 : Int32)), (0, .inr (.inr (some 113))), (1, .inl (nI id))], [.inl ((nI (2 * (2 * hln fc st))) - (1 : Int32)), .inl (nI id), .inr (.inr (some 113))], H)) (C := []) rfl trivial ?_
    rw [(show ((nI (2 * (2 * hln fc st))) - (1 : Int32)) = (nI ((2 * (2 * hln fc st)) - 1)) from (nI_sub (a := 2 * (2 * hln fc st)) (b := 1) (by omega)))]
    refine mw_cIe (fun _ => rfl) (show mu_is H (some 113) 11 from (h.1.1.is rfl)) (st_num (d := d) (p := (2 * (2 * hln fc st)) - 1) h e hs (by omega) (by omega)) ?_
    have kn6 : nmzU fc st ((2 * (2 * hln fc st)) - 1) < 16384 := hS _ ((hm3.2 _).mpr ⟨2 * hln fc st - 1, by omega, by rw [show (2 * (2 * hln fc st)) - 1 = 2 * (2 * hln fc st - 1) + 1 by omega]; exact hm2 _ (by omega), by rw [show 2 * (2 * hln fc st - 1) + 2 - 1 = (2 * (2 * hln fc st)) - 1 by omega]; exact Nat.le_refl _⟩)
    refine mw_go mu_g245 (k := 2) (f1 := (46, [(3, .inl (nI (2 * hln fc st))), (2, .inl (1 : Int32)), (0, .inr (.inr (some 113))), (1, .inl (nI id))], [.inl ((nI (nmzU fc st ((2 * (2 * hln fc st)) - 1))) >>> ((6 : Int32) &&& 31))], H)) (C := []) rfl trivial ?_
    rw [(show ((nI (nmzU fc st ((2 * (2 * hln fc st)) - 1))) >>> ((6 : Int32) &&& 31)) = (nI ((nmzU fc st ((2 * (2 * hln fc st)) - 1)) / 64)) from (nI_shr6 (a := nmzU fc st ((2 * (2 * hln fc st)) - 1)) (by omega)))]
    refine mw_go mu_g245 (k := 2) (f1 := (48, [(3, .inl (nI (2 * hln fc st))), (2, .inl (1 : Int32)), (0, .inr (.inr (some 113))), (1, .inl (nI id))], [.inl ((nI ((nmzU fc st ((2 * (2 * hln fc st)) - 1)) / 64)) + (1 : Int32))], H)) (C := []) rfl trivial ?_
    rw [(show ((nI ((nmzU fc st ((2 * (2 * hln fc st)) - 1)) / 64)) + (1 : Int32)) = (nI (((nmzU fc st ((2 * (2 * hln fc st)) - 1)) / 64) + 1)) from (nI_add ((nmzU fc st ((2 * (2 * hln fc st)) - 1)) / 64) 1))]
    exact mw_of (fun _ => mu_ret rfl trivial ⟨(nI (((nmzU fc st ((2 * (2 * hln fc st)) - 1)) / 64) + 1)), H, rfl, ⟨_, rfl, by omega, fun t k => ew_lt hm3 (by omega) k, fun z => absurd z (by omega)⟩, rfl⟩)
theorem st_ew2 (h : um m H) (e : ud m H = U) (hs : sat U id st fc) (hz : stz fc st S) (hS : ∀ x, S x = true → x < 16384) (hf : hfm fc st = 2) : mu_TI (mu_D (d + 2)) 245 [.inr (.inr (some 113)), .inl (nI id)] H (fun x H1 => (∃ v, x = nI v ∧ v ≤ 256 ∧ (∀ t, S t = true → t / 64 < v) ∧ (hfm fc st = 2 → v = hln fc st)) ∧ H1 = H) := by
  obtain ⟨⟨hi1, hi2⟩, hst, hst2, hch⟩ := (show sat U id st fc from hs)
  obtain ⟨hz1, hz2, hz3, hz4, hz5⟩ := hz
  have hm3 := hz5 hf
  refine mu_meth (M := mu_m245) rfl rfl ?_
  refine mw_ht (mu_fn_of (show [0, 1].Nodup by decide)) ?_
  refine mw_go mu_g245 (k := 2) (f1 := (2, [(0, .inr (.inr (some 113))), (1, .inl (nI id))], [.inl (nI id), .inr (.inr (some 113))], H)) (C := []) rfl trivial ?_
  refine mw_cIe (fun _ => rfl) (show mu_is H (some 113) 11 from (h.1.1.is rfl)) (st_form (d := d) h e hs) ?_
  rw [show nI (hfm fc st) = (2 : Int32) from congrArg nI hf]
  refine mw_go mu_g245 (k := 3) (f1 := (8, [(2, .inl (2 : Int32)), (0, .inr (.inr (some 113))), (1, .inl (nI id))], [.inl (nI id), .inr (.inr (some 113))], H)) (C := []) rfl trivial ?_
  refine mw_cIe (fun _ => rfl) (show mu_is H (some 113) 11 from (h.1.1.is rfl)) (st_parts (d := d) h e hs) ?_
  rw [show nI (hpt fc st) = nI (hln fc st) from congrArg nI (by unfold hpt; rw [hf]; rfl)]
  have kl := hln_lt (fc := fc) (st := st)
  have kz := hsz_lt (fc := fc) (st := st)
  refine mw_go mu_g245 (k := 3) (f1 := (14, [(3, .inl (nI (hln fc st))), (2, .inl (2 : Int32)), (0, .inr (.inr (some 113))), (1, .inl (nI id))], [.inl (2 : Int32), .inl (2 : Int32)], H)) (C := []) rfl trivial ?_
  refine mw_if (P := (2 : Int32) = (2 : Int32)) (a := 21) (b := 17) (fun _ => rfl) trivial (fun h3 => ?_) (fun h3 => absurd (by decide) h3)
  refine mw_go mu_g245 (k := 1) (f1 := (22, [(3, .inl (nI (hln fc st))), (2, .inl (2 : Int32)), (0, .inr (.inr (some 113))), (1, .inl (nI id))], [.inl (nI (hln fc st))], H)) (C := []) rfl trivial ?_
  exact mw_of (fun _ => mu_ret rfl trivial ⟨(nI (hln fc st)), H, rfl, ⟨_, rfl, by omega, fun t k => ((hm3 t).mp k).1, fun _ => rfl⟩, rfl⟩)
theorem st_ew (h : um m H) (e : ud m H = U) (hs : sat U id st fc) (hz : stz fc st S) (hS : ∀ x, S x = true → x < 16384) : mu_TI (mu_D (d + 2)) 245 [.inr (.inr (some 113)), .inl (nI id)] H (fun x H1 => (∃ v, x = nI v ∧ v ≤ 256 ∧ (∀ t, S t = true → t / 64 < v) ∧ (hfm fc st = 2 → v = hln fc st)) ∧ H1 = H) := by
  have kf := hz.1
  by_cases f0 : hfm fc st = 0
  · exact st_ew0 h e hs hz hS f0
  · by_cases f1 : hfm fc st = 1
    · exact st_ew1 h e hs hz hS f1
    · exact st_ew2 h e hs hz hS (by omega)
end Meets
