/-! THE STORE OF SETS: clear, forget -/
section Clear
variable {H : mu_H} {U V : Ud} {m d N us T M : Nat} {C : Nat → Nat} {S : Nat → Nat → Bool} {z : Nat → Nat} {p : Nat → Bool}
theorem hi_nI {n : Nat} (h0 : 0 < n) (hn : n < 2147483648) : ∃ k, k ≤ 30 ∧ ji_hi (nI n) = nI (2 ^ k) ∧ 2 ^ k ≤ n ∧ n < 2 ^ (k + 1) := by
  obtain ⟨k, k1, k2, k3, k4, k5⟩ := lz_nI h0 hn
  have e : ji_lz (nI n) = nI (32 - k) := by
    have e1 : ji_lz (nI n) = (32 : Int32) - nI k := by
      have h1 : nI k + ji_lz (nI n) = 32 := by rw [← k2, Int32.sub_add_cancel]
      rw [← h1, Int32.add_comm, Int32.add_sub_cancel]
    rw [e1]
    exact nI_sub (a := 32) (b := k) (by omega)
  have key : ∀ k : Fin 31, (((-2147483648 : Int32).toUInt32 >>> ((nI (32 - (k.1 + 1))).toUInt32 &&& Int32.toUInt32 31)).toInt32) = nI (2 ^ k.1) := by decide +kernel
  have hk := key ⟨k - 1, by omega⟩
  rw [show k - 1 + 1 = k by omega] at hk
  refine ⟨k - 1, by omega, ?_, k4, by rw [show k - 1 + 1 = k by omega]; exact k3⟩
  unfold ji_hi
  rw [e, hk]
  have hp : 2 ^ (k - 1) < 2 ^ 31 := Nat.pow_lt_pow_right (by decide) (by omega)
  rw [← Int32.toBitVec_inj]
  apply BitVec.eq_of_toNat_eq
  show (BitVec.ofNat 32 n &&& BitVec.ofNat 32 (2 ^ (k - 1))).toNat = (BitVec.ofNat 32 (2 ^ (k - 1))).toNat
  rw [BitVec.toNat_and, BitVec.toNat_ofNat, BitVec.toNat_ofNat, Nat.mod_eq_of_lt (show n < 2 ^ 32 by omega), Nat.mod_eq_of_lt (show 2 ^ (k - 1) < 2 ^ 32 by omega)]
  have ht : n.testBit (k - 1) = true := by
    rw [Nat.testBit_eq_decide_div_mod_eq, decide_eq_true_iff]
    have h1 : n / 2 ^ (k - 1) = 1 := by
      rw [Nat.div_eq_of_lt_le]
      · omega
      · rw [show (1 + 1) * 2 ^ (k - 1) = 2 ^ (k - 1 + 1) by rw [Nat.pow_succ]; omega, show k - 1 + 1 = k by omega]
        exact k3
    rw [h1]
  apply Nat.eq_of_testBit_eq
  intro i
  rw [Nat.testBit_and, Nat.testBit_two_pow]
  by_cases e : k - 1 = i
  · rw [← e, ht]
    rfl
  · rw [decide_eq_false e, Bool.and_false]
theorem SOK.forget (h : SOK U N us S z p) (hM : U.2.1 113 5 = nI M) (hM2 : M < 2147483648) : SOK (upF U 113 4 0 (fun _ => (-1 : Int32)) (M + 1 - 0)) N us S z p := by
  obtain ⟨h1, h2, h3, ⟨kk, hk, hm, hh⟩, h5, h6, h7⟩ := h
  refine ⟨h1, h2, h3, ⟨kk, hk, hm, fun k hk' => Or.inl ?_⟩, h5, h6, h7⟩
  have hp : 2 ^ kk ≤ 2 ^ 12 := Nat.pow_le_pow_right (by decide) hk
  have hp0 := Nat.two_pow_pos kk
  have e : M = 2 ^ kk - 1 := nI_inj hM2 (by omega) (hM.symm.trans hm)
  show (if 0 ≤ k ∧ k < 0 + (M + 1 - 0) then (-1 : Int32) else (U.2.2.1 113 4).2 k) = -1
  exact if_pos ⟨by omega, by omega⟩
theorem SOK.clear {k : Nat} (hL : 1 ≤ (U.2.2.1 113 3).1 ∧ (U.2.2.1 113 3).1 ≤ 1048576) (hc : ∀ c, c < 184 → U.2.2.2.2.2 114 c = Option.none ∨ ∃ f, U.2.2.2.2.2 114 c = some (8192, f)) : SOK (upF (upI (upI (upI U 113 1 0) 113 2 0) 113 5 (nI (min 4096 (2 * 2 ^ k) - 1))) 113 4 0 (fun _ => (-1 : Int32)) ((min 4096 (2 * 2 ^ k) - 1) + 1 - 0)) 0 0 S z p := by
  have hp0 := Nat.two_pow_pos k
  refine ⟨⟨rfl, by decide, rfl, by decide⟩, ⟨Nat.zero_le _, hL.1, hL.2⟩, hc, ?_, fun id h => absurd h (Nat.not_lt_zero _), fun id h => absurd h (Nat.not_lt_zero _), fun id h => absurd h (Nat.not_lt_zero _)⟩
  by_cases e : k + 1 ≤ 12
  · have h1 : 2 ^ (k + 1) ≤ 2 ^ 12 := Nat.pow_le_pow_right (by decide) e
    have h2 : 2 * 2 ^ k = 2 ^ (k + 1) := by rw [Nat.pow_succ]; omega
    refine ⟨k + 1, e, ?_, fun q hq => Or.inl ?_⟩
    · show nI (min 4096 (2 * 2 ^ k) - 1) = _
      rw [h2]
      exact congrArg nI (by omega)
    · show (if 0 ≤ q ∧ q < 0 + (min 4096 (2 * 2 ^ k) - 1 + 1 - 0) then (-1 : Int32) else (U.2.2.1 113 4).2 q) = -1
      rw [h2]
      exact if_pos ⟨by omega, by omega⟩
  · have h1 : 2 ^ 12 ≤ 2 ^ (k + 1) := Nat.pow_le_pow_right (by decide) (by omega)
    have h2 : 2 * 2 ^ k = 2 ^ (k + 1) := by rw [Nat.pow_succ]; omega
    refine ⟨12, by decide, ?_, fun q hq => Or.inl ?_⟩
    · show nI (min 4096 (2 * 2 ^ k) - 1) = _
      rw [h2]
      exact congrArg nI (by omega)
    · show (if 0 ≤ q ∧ q < 0 + (min 4096 (2 * 2 ^ k) - 1 + 1 - 0) then (-1 : Int32) else (U.2.2.1 113 4).2 q) = -1
      rw [h2]
      exact if_pos ⟨by omega, by omega⟩
/-- PathProver$Sets.forget()V -/
abbrev mu_m255 : ev_M := (1, none, [], ev_b255)
theorem mu_g255 : mu_good mu_m255 := mu_goodk ev_k255
theorem st_forget (h : um m H) (e : ud m H = U) (hM : U.2.1 113 5 = nI M) (hM2 : M < 4096) : mu_TV (mu_D (d + 3)) 255 [.inr (.inr (some 113))] H (fun H1 => um m H1 ∧ ur m C H H1 ∧ ud m H1 = (upI (upI (upF U 113 4 0 (fun _ => (-1 : Int32)) ((M + 1) - 0)) 113 7 (U.2.1 113 1)) 113 8 (U.2.1 113 2))) := by
  refine mu_meth (M := mu_m255) rfl rfl ?_
  refine mw_ht (mu_fn_of (show [0].Nodup by decide)) ?_
  refine mw_go mu_g255 (k := 2) (f1 := (4, [(0, .inr (.inr (some 113)))], [.inr (.inr (mu_r H 113 4))], H)) (C := [mu_is H (some 113) 11]) rfl (show mu_is H (some 113) 11 from (h.1.1.is rfl)) ?_
  rw [(h.1.1.r (p := 113) (j := 4) (q := 116) rfl)]
  refine mw_go mu_g255 (k := 3) (f1 := (9, [(0, .inr (.inr (some 113)))], [.inl (mu_i H 113 5), .inl (0 : Int32), .inr (.inr (some 116))], H)) (C := [mu_is H (some 113) 11]) rfl (show mu_is H (some 113) 11 from (h.1.1.is rfl)) ?_
  rw [(show mu_i H 113 5 = (nI M) from (ud_i (U := U) (m := m) (P := 113) (j := 5) e rfl).trans hM)]
  refine mw_go mu_g255 (k := 2) (f1 := (11, [(0, .inr (.inr (some 113)))], [.inl ((nI M) + (1 : Int32)), .inl (0 : Int32), .inr (.inr (some 116))], H)) (C := []) rfl trivial ?_
  rw [(show ((nI M) + (1 : Int32)) = (nI (M + 1)) from (nI_add M 1))]
  refine mw_go mu_g255 (k := 1) (f1 := (12, [(0, .inr (.inr (some 113)))], [.inl (-1 : Int32), .inl (nI (M + 1)), .inl (0 : Int32), .inr (.inr (some 116))], H)) (C := []) rfl trivial ?_
  refine mw_cV (fun _ => rfl) trivial ((ar_fillR_ok (d := d) (v := (-1 : Int32)) (h.iA e rfl rfl ((ud_q (m := m) (P := 113) (j := 4) e rfl).symm.trans (h.1.1.r (p := 113) (j := 4) (q := 116) rfl))) (show 0 ≤ M + 1 by omega) (by rw [show mu_n H (mu_p (some 116)) = 4096 from (h.1.1.a (p := 116) (x := (100, 4096)) rfl).2]; omega) (by rw [show mu_n H (mu_p (some 116)) = 4096 from (h.1.1.a (p := 116) (x := (100, 4096)) rfl).2]; omega)).imp (fun Hx qx => show um m Hx ∧ ur m C H Hx ∧ ud m Hx = (upF U 113 4 0 (fun _ => (-1 : Int32)) ((M + 1) - 0)) by rw [qx]; exact h.fA (C := C) e rfl rfl ((ud_q (m := m) (P := 113) (j := 4) e rfl).symm.trans (h.1.1.r (p := 113) (j := 4) (q := 116) rfl)))) (fun Q1 q1 => ?_)
  obtain ⟨u1, r1, d1⟩ := q1
  have ht1 : ur m C H Q1 := (ur.refl m C H).trans r1
  refine mw_go mu_g255 (k := 3) (f1 := (20, [(0, .inr (.inr (some 113)))], [.inl (mu_i Q1 113 1), .inr (.inr (some 113))], Q1)) (C := [mu_is Q1 (some 113) 11]) rfl (show mu_is Q1 (some 113) 11 from (u1.1.1.is rfl)) ?_
  rw [(show mu_i Q1 113 1 = (U.2.1 113 1) from (ud_i (U := (upF U 113 4 0 (fun _ => (-1 : Int32)) ((M + 1) - 0))) (m := m) (P := 113) (j := 1) d1 rfl))]
  refine mw_go mu_g255 (k := 1) (f1 := (23, [(0, .inr (.inr (some 113)))], [], (mu_si Q1 113 7 (U.2.1 113 1)))) (C := [mu_is Q1 (some 113) 11]) rfl (show mu_is Q1 (some 113) 11 from (u1.1.1.is rfl)) ?_
  obtain ⟨u2, r2, d2⟩ : um m (mu_si Q1 113 7 (U.2.1 113 1)) ∧ ur m C Q1 (mu_si Q1 113 7 (U.2.1 113 1)) ∧ ud m (mu_si Q1 113 7 (U.2.1 113 1)) = (upI (upF U 113 4 0 (fun _ => (-1 : Int32)) ((M + 1) - 0)) 113 7 (U.2.1 113 1)) := u1.sI (C := C) d1 rfl
  generalize (mu_si Q1 113 7 (U.2.1 113 1)) = Q2 at u2 r2 d2 ⊢
  have ht2 : ur m C H Q2 := ht1.trans r2
  refine mw_go mu_g255 (k := 3) (f1 := (28, [(0, .inr (.inr (some 113)))], [.inl (mu_i Q2 113 2), .inr (.inr (some 113))], Q2)) (C := [mu_is Q2 (some 113) 11]) rfl (show mu_is Q2 (some 113) 11 from (u2.1.1.is rfl)) ?_
  rw [(show mu_i Q2 113 2 = (U.2.1 113 2) from (ud_i (U := (upI (upF U 113 4 0 (fun _ => (-1 : Int32)) ((M + 1) - 0)) 113 7 (U.2.1 113 1))) (m := m) (P := 113) (j := 2) d2 rfl))]
  refine mw_go mu_g255 (k := 1) (f1 := (31, [(0, .inr (.inr (some 113)))], [], (mu_si Q2 113 8 (U.2.1 113 2)))) (C := [mu_is Q2 (some 113) 11]) rfl (show mu_is Q2 (some 113) 11 from (u2.1.1.is rfl)) ?_
  obtain ⟨u3, r3, d3⟩ : um m (mu_si Q2 113 8 (U.2.1 113 2)) ∧ ur m C Q2 (mu_si Q2 113 8 (U.2.1 113 2)) ∧ ud m (mu_si Q2 113 8 (U.2.1 113 2)) = (upI (upI (upF U 113 4 0 (fun _ => (-1 : Int32)) ((M + 1) - 0)) 113 7 (U.2.1 113 1)) 113 8 (U.2.1 113 2)) := u2.sI (C := C) d2 rfl
  generalize (mu_si Q2 113 8 (U.2.1 113 2)) = Q3 at u3 r3 d3 ⊢
  have ht3 : ur m C H Q3 := ht2.trans r3
  exact mw_of (fun _ => mu_ret rfl trivial ⟨Q3, rfl, u3, ht3, d3⟩)
/-- PathProver$Sets.clear(I)V -/
abbrev mu_m256 : ev_M := (2, none, [], ev_b256)
theorem mu_g256 : mu_good mu_m256 := mu_goodk ev_k256
theorem st_clear (h : um m H) (e : ud m H = U) (hT0 : 0 < T) (hT : T ≤ 16384) : mu_TV (mu_D (d + 4)) 256 [.inr (.inr (some 113)), .inl (nI T)] H (fun H1 => um m H1 ∧ ur m C H H1 ∧ ∃ k, (2 ^ k ≤ T ∧ T < 2 ^ (k + 1)) ∧ ud m H1 = upI (upI (upF (upI (upI (upI U 113 1 0) 113 2 0) 113 5 (nI (min 4096 (2 * 2 ^ k) - 1))) 113 4 0 (fun _ => (-1 : Int32)) ((min 4096 (2 * 2 ^ k) - 1) + 1 - 0)) 113 7 0) 113 8 0) := by
  obtain ⟨k, hk1, hk2, hk3, hk4⟩ := hi_nI (n := T) hT0 (by omega)
  have hk0 := Nat.two_pow_pos k
  refine mu_meth (M := mu_m256) rfl rfl ?_
  refine mw_ht (mu_fn_of (show [0, 1].Nodup by decide)) ?_
  refine mw_go mu_g256 (k := 3) (f1 := (5, [(0, .inr (.inr (some 113))), (1, .inl (nI T))], [], (mu_si H 113 1 (0 : Int32)))) (C := [mu_is H (some 113) 11]) rfl (show mu_is H (some 113) 11 from (h.1.1.is rfl)) ?_
  obtain ⟨u1, r1, d1⟩ : um m (mu_si H 113 1 (0 : Int32)) ∧ ur m C H (mu_si H 113 1 (0 : Int32)) ∧ ud m (mu_si H 113 1 (0 : Int32)) = (upI U 113 1 (0 : Int32)) := h.sI (C := C) e rfl
  generalize (mu_si H 113 1 (0 : Int32)) = Q1 at u1 r1 d1 ⊢
  have ht1 : ur m C H Q1 := (ur.refl m C H).trans r1
  refine mw_go mu_g256 (k := 3) (f1 := (10, [(0, .inr (.inr (some 113))), (1, .inl (nI T))], [], (mu_si Q1 113 2 (0 : Int32)))) (C := [mu_is Q1 (some 113) 11]) rfl (show mu_is Q1 (some 113) 11 from (u1.1.1.is rfl)) ?_
  obtain ⟨u2, r2, d2⟩ : um m (mu_si Q1 113 2 (0 : Int32)) ∧ ur m C Q1 (mu_si Q1 113 2 (0 : Int32)) ∧ ud m (mu_si Q1 113 2 (0 : Int32)) = (upI (upI U 113 1 (0 : Int32)) 113 2 (0 : Int32)) := u1.sI (C := C) d1 rfl
  generalize (mu_si Q1 113 2 (0 : Int32)) = Q2 at u2 r2 d2 ⊢
  have ht2 : ur m C H Q2 := ht1.trans r2
  refine mw_go mu_g256 (k := 4) (f1 := (16, [(0, .inr (.inr (some 113))), (1, .inl (nI T))], [.inl (nI T), .inl (2 : Int32), .inl (4096 : Int32), .inr (.inr (some 113))], Q2)) (C := []) rfl trivial ?_
  refine mw_cIe (fun _ => rfl) trivial (ji_hi_ok (d := (d + 1)) (nI T)) ?_
  rw [hk2]
  refine mw_go mu_g256 (k := 1) (f1 := (20, [(0, .inr (.inr (some 113))), (1, .inl (nI T))], [.inl ((2 : Int32) * (nI (2 ^ k))), .inl (4096 : Int32), .inr (.inr (some 113))], Q2)) (C := []) rfl trivial ?_
  rw [(show ((2 : Int32) * (nI (2 ^ k))) = (nI (2 * (2 ^ k))) from (nI_mul (a := 2) (b := 2 ^ k)))]
  refine mw_cIe (fun _ => rfl) trivial (mu_min_ok (d := (d + 2)) (4096 : Int32) (nI (2 * (2 ^ k)))) ?_
  rw [show (mu_min (4096 : Int32) (nI (2 * (2 ^ k)))) = nI (min 4096 (2 * (2 ^ k))) from mu_min_n (a := 4096) (b := 2 * (2 ^ k)) (by omega) (by omega)]
  refine mw_go mu_g256 (k := 2) (f1 := (25, [(0, .inr (.inr (some 113))), (1, .inl (nI T))], [.inl ((nI (min 4096 (2 * (2 ^ k)))) - (1 : Int32)), .inr (.inr (some 113))], Q2)) (C := []) rfl trivial ?_
  rw [(show ((nI (min 4096 (2 * (2 ^ k)))) - (1 : Int32)) = (nI ((min 4096 (2 * (2 ^ k))) - 1)) from (nI_sub (a := min 4096 (2 * (2 ^ k))) (b := 1) (by omega)))]
  refine mw_go mu_g256 (k := 1) (f1 := (28, [(0, .inr (.inr (some 113))), (1, .inl (nI T))], [], (mu_si Q2 113 5 (nI ((min 4096 (2 * (2 ^ k))) - 1))))) (C := [mu_is Q2 (some 113) 11]) rfl (show mu_is Q2 (some 113) 11 from (u2.1.1.is rfl)) ?_
  obtain ⟨u5, r5, d5⟩ : um m (mu_si Q2 113 5 (nI ((min 4096 (2 * (2 ^ k))) - 1))) ∧ ur m C Q2 (mu_si Q2 113 5 (nI ((min 4096 (2 * (2 ^ k))) - 1))) ∧ ud m (mu_si Q2 113 5 (nI ((min 4096 (2 * (2 ^ k))) - 1))) = (upI (upI (upI U 113 1 (0 : Int32)) 113 2 (0 : Int32)) 113 5 (nI ((min 4096 (2 * (2 ^ k))) - 1))) := u2.sI (C := C) d2 rfl
  generalize (mu_si Q2 113 5 (nI ((min 4096 (2 * (2 ^ k))) - 1))) = Q5 at u5 r5 d5 ⊢
  have ht5 : ur m C H Q5 := ht2.trans r5
  refine mw_go mu_g256 (k := 1) (f1 := (29, [(0, .inr (.inr (some 113))), (1, .inl (nI T))], [.inr (.inr (some 113))], Q5)) (C := []) rfl trivial ?_
  refine mw_cV (fun _ => rfl) (show mu_is Q5 (some 113) 11 from (u5.1.1.is rfl)) (st_forget (d := d) (C := C) (M := (min 4096 (2 * (2 ^ k))) - 1) u5 d5 rfl (by omega)) (fun Q6 q6 => ?_)
  obtain ⟨u6, r6, d6⟩ := q6
  have ht6 : ur m C H Q6 := ht5.trans r6
  exact mw_of (fun _ => mu_ret rfl trivial ⟨Q6, rfl, u6, ht6, k, ⟨hk3, hk4⟩, d6⟩)
end Clear
