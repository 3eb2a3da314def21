/-! arrays that are fitted, in the upper layer; Machine.layOut -/
section FitA
variable {H : mu_H} {m d P J N n e W sl dp cp T : Nat} {C : Nat → Nat} {U V : Ud}
theorem um.fitA {Q Hf : mu_H} {x o : Option Nat} {Fr : Uf} (h : um m Q) (hV : ud m Q = V) (hP : uo P = true) (ho : gi_o P J = true) (hr : gi_r P J = none) (heo : mu_r Q P J = o) (hb : (V.2.2.1 P J).1 ≤ 8388608) (hN : N ≤ 8388608) (q : (N ≤ mu_n Q (mu_p o) ∧ x = o ∧ Hf = Q) ∨ (mu_n Q (mu_p o) < N ∧ x = some (mu_z Q) ∧ Hf = mu_nw Q 100 (max N (2 * mu_n Q (mu_p o))) (max N (2 * mu_n Q (mu_p o))))) (ha : in2 Fr.a P J = true) (hn : in2 Fr.n P J = true) : um m (mu_sr Hf P J x) ∧ ur m C Q (mu_sr Hf P J x) ∧ uq Fr V (ud m (mu_sr Hf P J x)) ∧ N ≤ ((ud m (mu_sr Hf P J x)).2.2.1 P J).1 ∧ ((ud m (mu_sr Hf P J x)).2.2.1 P J).1 ≤ max (V.2.2.1 P J).1 (2 * N) := by
  subst heo
  have el : mu_n Q (mu_p (mu_r Q P J)) = (V.2.2.1 P J).1 := ud_n (m := m) (P := P) (J := J) hV hP ho
  rcases q with ⟨q1, q2, q3⟩ | ⟨q1, q2, q3⟩
  · rw [q2, q3, mu_sr_id, hV]
    exact ⟨h, ur.refl m C Q, uq.refl _ _, by omega, by omega⟩
  · rw [q2, q3]
    obtain ⟨a, b, c⟩ := h.newA (C := C) (P := P) (J := J) (N := max N (2 * mu_n Q (mu_p (mu_r Q P J)))) hP ho hr (by show 2 * mu_n Q (mu_p (mu_r Q P J)) ≤ _; omega) (by omega)
    rw [c, hV]
    have e : ((upN V P J (max N (2 * mu_n Q (mu_p (mu_r Q P J)))) (mu_z Q)).2.2.1 P J).1 = max N (2 * mu_n Q (mu_p (mu_r Q P J))) := by
      show (f2 V.2.2.1 P J (max N (2 * mu_n Q (mu_p (mu_r Q P J))), fun _ => 0) P J).1 = _
      unfold f2
      rw [if_pos ⟨rfl, rfl⟩]
    exact ⟨a, b, (uq.refl _ _).N ha hn, by rw [e]; omega, by rw [e]; omega⟩
theorem um.fitT {Q Hf : mu_H} {x o : Option Nat} {Fr : Uf} (h : um m Q) (hV : ud m Q = V) (hP : uo P = true) (ho : gi_o P J = true) (hr : gi_r P J = none) (heo : mu_r Q P J = o) (hl : lwh e (V.2.2.1 P J).1) (q : (e * (n + 4) ≤ mu_n Q (mu_p o) ∧ x = o ∧ Hf = Q) ∨ ∃ N, 2 * mu_n Q (mu_p o) ≤ N ∧ e * (n + 4) ≤ N ∧ N ≤ 114716 ∧ lwh e N ∧ x = some (mu_z Q) ∧ Hf = mu_nw Q 100 N N) (ha : in2 Fr.a P J = true) (hn : in2 Fr.n P J = true) : um m (mu_sr Hf P J x) ∧ ur m C Q (mu_sr Hf P J x) ∧ uq Fr V (ud m (mu_sr Hf P J x)) ∧ e * (n + 4) ≤ ((ud m (mu_sr Hf P J x)).2.2.1 P J).1 ∧ lwh e ((ud m (mu_sr Hf P J x)).2.2.1 P J).1 := by
  subst heo
  have el : mu_n Q (mu_p (mu_r Q P J)) = (V.2.2.1 P J).1 := ud_n (m := m) (P := P) (J := J) hV hP ho
  rcases q with ⟨q1, q2, q3⟩ | ⟨N, q1, q2, q3, q4, q5, q6⟩
  · rw [q2, q3, mu_sr_id, hV]
    exact ⟨h, ur.refl m C Q, uq.refl _ _, by omega, hl⟩
  · rw [q5, q6]
    obtain ⟨a, b, c⟩ := h.newA (C := C) (P := P) (J := J) (N := N) hP ho hr q1 (by omega)
    rw [c, hV]
    have e : ((upN V P J N (mu_z Q)).2.2.1 P J).1 = N := by
      show (f2 V.2.2.1 P J (N, fun _ => 0) P J).1 = _
      unfold f2
      rw [if_pos ⟨rfl, rfl⟩]
    exact ⟨a, b, (uq.refl _ _).N ha hn, by rw [e]; omega, by rw [e]; exact q4⟩
theorem fitA_is {Q Hf : mu_H} {x o : Option Nat} {p ci L : Nat} {A1 B1 : Prop} (h : mu_is Q (some p) ci) (q : (A1 ∧ x = o ∧ Hf = Q) ∨ (B1 ∧ x = some (mu_z Q) ∧ Hf = mu_nw Q 100 L L)) : mu_is Hf (some p) ci := by
  rcases q with ⟨-, -, z⟩ | ⟨-, -, z⟩
  · rw [z]; exact h
  · rw [z]; exact mu_is_nw h
theorem fitT_is {Q Hf : mu_H} {x o : Option Nat} {p ci e n : Nat} {A1 : Prop} (h : mu_is Q (some p) ci) (q : (A1 ∧ x = o ∧ Hf = Q) ∨ ∃ N, 2 * mu_n Q (mu_p o) ≤ N ∧ e * (n + 4) ≤ N ∧ N ≤ 114716 ∧ lwh e N ∧ x = some (mu_z Q) ∧ Hf = mu_nw Q 100 N N) : mu_is Hf (some p) ci := by
  rcases q with ⟨-, -, z⟩ | ⟨N, -, -, -, -, -, z⟩
  · rw [z]; exact h
  · rw [z]; exact mu_is_nw h
/-- the lengths that cells may have -/
def clz (n : Nat) : Prop := n = 64 ∨ n = 4096 ∨ n = 32768

/-- PathProver$Machine.layOut(II)V -/
abbrev mu_m206 : ev_M := (4, none, [], ev_b206)
theorem mu_g206 : mu_good mu_m206 := mu_goodk ev_k206
def F206 : Uf := ⟨[], [(100, 7), (100, 17)], [(100, 8), (100, 12), (100, 13), (100, 15)], [(100, 8), (100, 12), (100, 13), (100, 15)], [], false⟩
theorem mc_layOut (h : um m H) (e : ud m H = U) (hsp : U.2.2.2.1 100 0 = some 99) (hT : U.2.1 99 11 = nI T) (hTb : T ≤ 16384) (hcp : U.2.1 100 5 = nI cp) (hall : sl + cp + dp ≤ 32768) (hdp : 1 ≤ dp) (hcl : clz (U.2.2.1 100 8).1) (h12 : (U.2.2.1 100 12).1 ≤ 131072) (h13 : (U.2.2.1 100 13).1 ≤ 131072) (h15 : (U.2.2.1 100 15).1 ≤ 131072) :
    mu_TV (mu_D (d + 3)) 206 [.inr (.inr (some 100)), .inl (nI sl), .inl (nI dp)] H (fun H1 => um m H1 ∧ ur m C H H1 ∧ uq F206 U (ud m H1) ∧ ∃ W, (ud m H1).2.1 100 7 = nI (sl + cp) ∧ (ud m H1).2.1 100 17 = nI W ∧ 1 ≤ W ∧ W ≤ 1024 ∧ (sl + cp + dp) * W ≤ ((ud m H1).2.2.1 100 8).1 ∧ clz ((ud m H1).2.2.1 100 8).1 ∧ (sl + cp + dp ≤ ((ud m H1).2.2.1 100 12).1 ∧ ((ud m H1).2.2.1 100 12).1 ≤ 131072) ∧ (dp + 1 ≤ ((ud m H1).2.2.1 100 13).1 ∧ ((ud m H1).2.2.1 100 13).1 ≤ 131072) ∧ cp + 2 ≤ ((ud m H1).2.2.1 100 15).1 ∧ ((ud m H1).2.2.1 100 15).1 ≤ 131072) := by
  have hcl0 := hcl
  have hcl1 : (U.2.2.1 100 8).1 ≤ 32768 := by unfold clz at hcl; omega
  have hdv0 := Nat.div_le_self 32768 (sl + cp + dp)
  refine mu_meth (M := mu_m206) rfl rfl ?_
  refine mw_ht (mu_fn_of (show [0, 1, 2].Nodup by decide)) ?_
  refine mw_go mu_g206 (k := 4) (f1 := (6, [(0, .inr (.inr (some 100))), (1, .inl (nI sl)), (2, .inl (nI dp))], [.inl (mu_i H 100 5), .inl (nI sl), .inr (.inr (some 100))], H)) (C := [mu_is H (some 100) 5]) rfl (show mu_is H (some 100) 5 from (h.1.1.is rfl)) ?_
  rw [(show mu_i H 100 5 = (nI cp) from (ud_i (U := U) (m := m) (P := 100) (j := 5) e rfl).trans hcp)]
  refine mw_go mu_g206 (k := 1) (f1 := (7, [(0, .inr (.inr (some 100))), (1, .inl (nI sl)), (2, .inl (nI dp))], [.inl ((nI sl) + (nI cp)), .inr (.inr (some 100))], H)) (C := []) rfl trivial ?_
  rw [(show ((nI sl) + (nI cp)) = (nI (sl + cp)) from (nI_add sl cp))]
  refine mw_go mu_g206 (k := 1) (f1 := (10, [(0, .inr (.inr (some 100))), (1, .inl (nI sl)), (2, .inl (nI dp))], [], (mu_si H 100 7 (nI (sl + cp))))) (C := [mu_is H (some 100) 5]) rfl (show mu_is H (some 100) 5 from (h.1.1.is rfl)) ?_
  obtain ⟨u1, r1, d1⟩ : um m (mu_si H 100 7 (nI (sl + cp))) ∧ ur m C H (mu_si H 100 7 (nI (sl + cp))) ∧ ud m (mu_si H 100 7 (nI (sl + cp))) = (upI U 100 7 (nI (sl + cp))) := h.sI (C := C) e rfl
  generalize (mu_si H 100 7 (nI (sl + cp))) = Q1 at u1 r1 d1 ⊢
  have qf1 : uq F206 U (upI U 100 7 (nI (sl + cp))) := (uq.refl F206 U).I rfl
  have ht1 : ur m C H Q1 := (ur.refl m C H).trans r1
  refine mw_go mu_g206 (k := 2) (f1 := (14, [(0, .inr (.inr (some 100))), (1, .inl (nI sl)), (2, .inl (nI dp))], [.inl (mu_i Q1 100 7)], Q1)) (C := [mu_is Q1 (some 100) 5]) rfl (show mu_is Q1 (some 100) 5 from (u1.1.1.is rfl)) ?_
  rw [(show mu_i Q1 100 7 = (nI (sl + cp)) from (ud_i (U := (upI U 100 7 (nI (sl + cp)))) (m := m) (P := 100) (j := 7) d1 rfl))]
  refine mw_go mu_g206 (k := 2) (f1 := (16, [(0, .inr (.inr (some 100))), (1, .inl (nI sl)), (2, .inl (nI dp))], [.inl ((nI (sl + cp)) + (nI dp))], Q1)) (C := []) rfl trivial ?_
  rw [(show ((nI (sl + cp)) + (nI dp)) = (nI ((sl + cp) + dp)) from (nI_add (sl + cp) dp))]
  refine mw_go mu_g206 (k := 7) (f1 := (28, [(3, .inl (nI ((sl + cp) + dp))), (0, .inr (.inr (some 100))), (1, .inl (nI sl)), (2, .inl (nI dp))], [.inr (.inr (mu_r Q1 100 0)), .inl (16 : Int32), .inl (1024 : Int32), .inl (1 : Int32), .inr (.inr (some 100))], Q1)) (C := [mu_is Q1 (some 100) 5]) rfl (show mu_is Q1 (some 100) 5 from (u1.1.1.is rfl)) ?_
  rw [(show mu_r Q1 100 0 = (some 99) from (ud_q (U := (upI U 100 7 (nI (sl + cp)))) (m := m) (P := 100) (j := 0) d1 rfl).trans hsp)]
  refine mw_go mu_g206 (k := 1) (f1 := (31, [(3, .inl (nI ((sl + cp) + dp))), (0, .inr (.inr (some 100))), (1, .inl (nI sl)), (2, .inl (nI dp))], [.inl (mu_i Q1 99 11), .inl (16 : Int32), .inl (1024 : Int32), .inl (1 : Int32), .inr (.inr (some 100))], Q1)) (C := [mu_is Q1 (some 99) 13]) rfl (show mu_is Q1 (some 99) 13 from (u1.1.1.is rfl)) ?_
  rw [(show mu_i Q1 99 11 = (nI T) from (ud_i (U := (upI U 100 7 (nI (sl + cp)))) (m := m) (P := 99) (j := 11) d1 rfl).trans hT)]
  refine mw_cIe (fun _ => rfl) trivial (mu_max_ok (d := (d + 1)) (16 : Int32) (nI T)) ?_
  rw [show (mu_max (16 : Int32) (nI T)) = nI (max 16 T) from mu_max_n (a := 16) (b := T) (by omega) (by omega)]
  refine mw_cIe (fun _ => rfl) trivial (mu_min_ok (d := (d + 1)) (1024 : Int32) (nI (max 16 T))) ?_
  rw [show (mu_min (1024 : Int32) (nI (max 16 T))) = nI (min 1024 (max 16 T)) from mu_min_n (a := 1024) (b := max 16 T) (by omega) (by omega)]
  refine mw_go mu_g206 (k := 3) (f1 := (41, [(3, .inl (nI ((sl + cp) + dp))), (0, .inr (.inr (some 100))), (1, .inl (nI sl)), (2, .inl (nI dp))], [.inl ((32768 : Int32) / (nI ((sl + cp) + dp))), .inl (nI (min 1024 (max 16 T))), .inl (1 : Int32), .inr (.inr (some 100))], Q1)) (C := [¬ (nI ((sl + cp) + dp)) = 0]) rfl (show ¬ (nI ((sl + cp) + dp)) = 0 from (nI_ne0 (by omega) (by omega))) ?_
  rw [(show ((32768 : Int32) / (nI ((sl + cp) + dp))) = (nI (32768 / ((sl + cp) + dp))) from (nI_div (a := 32768) (b := (sl + cp) + dp) (by omega) (by omega)))]
  refine mw_cIe (fun _ => rfl) trivial (mu_min_ok (d := (d + 1)) (nI (min 1024 (max 16 T))) (nI (32768 / ((sl + cp) + dp)))) ?_
  rw [show (mu_min (nI (min 1024 (max 16 T))) (nI (32768 / ((sl + cp) + dp)))) = nI (min (min 1024 (max 16 T)) (32768 / ((sl + cp) + dp))) from mu_min_n (a := min 1024 (max 16 T)) (b := 32768 / ((sl + cp) + dp)) (by omega) (by omega)]
  refine mw_cIe (fun _ => rfl) trivial (mu_max_ok (d := (d + 1)) (1 : Int32) (nI (min (min 1024 (max 16 T)) (32768 / ((sl + cp) + dp))))) ?_
  rw [show (mu_max (1 : Int32) (nI (min (min 1024 (max 16 T)) (32768 / ((sl + cp) + dp))))) = nI (max 1 (min (min 1024 (max 16 T)) (32768 / ((sl + cp) + dp)))) from mu_max_n (a := 1) (b := min (min 1024 (max 16 T)) (32768 / ((sl + cp) + dp))) (by omega) (by omega)]
  obtain ⟨W, hWe⟩ : ∃ W, W = max 1 (min (min 1024 (max 16 T)) (32768 / ((sl + cp) + dp))) := ⟨_, rfl⟩
  rw [← hWe]
  have hdv := Nat.div_mul_le_self 32768 (sl + cp + dp)
  have hd1 : 1 ≤ 32768 / (sl + cp + dp) := (Nat.le_div_iff_mul_le (by omega)).mpr (by omega)
  have hW1 : 1 ≤ W := by omega
  have hW2 : W ≤ 1024 := by omega
  have hWA : (sl + cp + dp) * W ≤ 32768 := Nat.le_trans (Nat.mul_le_mul_left _ (show W ≤ 32768 / (sl + cp + dp) by omega)) (by rw [Nat.mul_comm]; exact hdv)
  refine mw_go mu_g206 (k := 1) (f1 := (50, [(3, .inl (nI ((sl + cp) + dp))), (0, .inr (.inr (some 100))), (1, .inl (nI sl)), (2, .inl (nI dp))], [], (mu_si Q1 100 17 (nI W)))) (C := [mu_is Q1 (some 100) 5]) rfl (show mu_is Q1 (some 100) 5 from (u1.1.1.is rfl)) ?_
  obtain ⟨u6, r6, d6⟩ : um m (mu_si Q1 100 17 (nI W)) ∧ ur m C Q1 (mu_si Q1 100 17 (nI W)) ∧ ud m (mu_si Q1 100 17 (nI W)) = (upI (upI U 100 7 (nI (sl + cp))) 100 17 (nI W)) := u1.sI (C := C) d1 rfl
  generalize (mu_si Q1 100 17 (nI W)) = Q6 at u6 r6 d6 ⊢
  have qf6 : uq F206 U (upI (upI U 100 7 (nI (sl + cp))) 100 17 (nI W)) := qf1.I rfl
  have ht6 : ur m C H Q6 := ht1.trans r6
  refine mw_go mu_g206 (k := 3) (f1 := (55, [(3, .inl (nI ((sl + cp) + dp))), (0, .inr (.inr (some 100))), (1, .inl (nI sl)), (2, .inl (nI dp))], [.inl (mu_i Q6 100 17), .inl (nI ((sl + cp) + dp))], Q6)) (C := [mu_is Q6 (some 100) 5]) rfl (show mu_is Q6 (some 100) 5 from (u6.1.1.is rfl)) ?_
  rw [(show mu_i Q6 100 17 = (nI W) from (ud_i (U := (upI (upI U 100 7 (nI (sl + cp))) 100 17 (nI W))) (m := m) (P := 100) (j := 17) d6 rfl))]
  refine mw_go mu_g206 (k := 1) (f1 := (56, [(3, .inl (nI ((sl + cp) + dp))), (0, .inr (.inr (some 100))), (1, .inl (nI sl)), (2, .inl (nI dp))], [.inl ((nI ((sl + cp) + dp)) * (nI W))], Q6)) (C := []) rfl trivial ?_
  rw [(show ((nI ((sl + cp) + dp)) * (nI W)) = (nI (((sl + cp) + dp) * W)) from (nI_mul (a := (sl + cp) + dp) (b := W)))]
  refine mw_go mu_g206 (k := 2) (f1 := (60, [(3, .inl (nI ((sl + cp) + dp))), (0, .inr (.inr (some 100))), (1, .inl (nI sl)), (2, .inl (nI dp))], [.inr (.inr (mu_r Q6 100 8)), .inl (nI (((sl + cp) + dp) * W))], Q6)) (C := [mu_is Q6 (some 100) 5]) rfl (show mu_is Q6 (some 100) 5 from (u6.1.1.is rfl)) ?_
  rw [(show mu_r Q6 100 8 = (U.2.2.2.1 100 8) from (ud_q (U := (upI (upI U 100 7 (nI (sl + cp))) 100 17 (nI W))) (m := m) (P := 100) (j := 8) d6 rfl))]
  refine mw_go mu_g206 (k := 1) (f1 := (61, [(3, .inl (nI ((sl + cp) + dp))), (0, .inr (.inr (some 100))), (1, .inl (nI sl)), (2, .inl (nI dp))], [.inl (Int32.ofNat (mu_n Q6 (mu_p (U.2.2.2.1 100 8)))), .inl (nI (((sl + cp) + dp) * W))], Q6)) (C := [mu_isr Q6 (U.2.2.2.1 100 8) (mu_k Q6 (mu_p (U.2.2.2.1 100 8))), 100 ≤ mu_k Q6 (mu_p (U.2.2.2.1 100 8))]) rfl (show (mu_isr Q6 (U.2.2.2.1 100 8) (mu_k Q6 (mu_p (U.2.2.2.1 100 8)))) ∧ (100 ≤ mu_k Q6 (mu_p (U.2.2.2.1 100 8))) from ⟨(by have z := (u6.iA d6 rfl rfl (show (upI (upI U 100 7 (nI (sl + cp))) 100 17 (nI W)).2.2.2.1 100 8 = (U.2.2.2.1 100 8) from rfl)); rw [z.2.2]; exact z.r), (by have z := (u6.iA d6 rfl rfl (show (upI (upI U 100 7 (nI (sl + cp))) 100 17 (nI W)).2.2.2.1 100 8 = (U.2.2.2.1 100 8) from rfl)); rw [z.2.2]; decide)⟩) ?_
  rw [(show Int32.ofNat (mu_n Q6 (mu_p (U.2.2.2.1 100 8))) = nI ((U.2.2.1 100 8).1) from congrArg Int32.ofNat (show mu_n Q6 (mu_p (U.2.2.2.1 100 8)) = (U.2.2.1 100 8).1 from (u6.nA d6 rfl rfl (show (upI (upI U 100 7 (nI (sl + cp))) 100 17 (nI W)).2.2.2.1 100 8 = (U.2.2.2.1 100 8) from rfl) (show ((upI (upI U 100 7 (nI (sl + cp))) 100 17 (nI W)).2.2.1 100 8).1 = (U.2.2.1 100 8).1 from rfl))))]
  refine mw_if (P := (nI ((U.2.2.1 100 8).1)) < (nI (((sl + cp) + dp) * W))) (a := 64) (b := 99) (fun _ => rfl) trivial (fun h7 => ?_) (fun h7 => ?_)
  · -- 64: (nI ((U.2.2.1 100 8).1)) < (nI (((sl + cp) + dp) * W))
    have nh7 : ((U.2.2.1 100 8).1) < (((sl + cp) + dp) * W) := (nI_ltI (by omega) (by omega)).mp (show nI ((U.2.2.1 100 8).1) < nI (((sl + cp) + dp) * W) from h7)
    refine mw_go mu_g206 (k := 4) (f1 := (70, [(3, .inl (nI ((sl + cp) + dp))), (0, .inr (.inr (some 100))), (1, .inl (nI sl)), (2, .inl (nI dp))], [.inl (mu_i Q6 100 17), .inl (nI ((sl + cp) + dp)), .inr (.inr (some 100))], Q6)) (C := [mu_is Q6 (some 100) 5]) rfl (show mu_is Q6 (some 100) 5 from (u6.1.1.is rfl)) ?_
    rw [(show mu_i Q6 100 17 = (nI W) from (ud_i (U := (upI (upI U 100 7 (nI (sl + cp))) 100 17 (nI W))) (m := m) (P := 100) (j := 17) d6 rfl))]
    refine mw_go mu_g206 (k := 1) (f1 := (71, [(3, .inl (nI ((sl + cp) + dp))), (0, .inr (.inr (some 100))), (1, .inl (nI sl)), (2, .inl (nI dp))], [.inl ((nI ((sl + cp) + dp)) * (nI W)), .inr (.inr (some 100))], Q6)) (C := []) rfl trivial ?_
    rw [(show ((nI ((sl + cp) + dp)) * (nI W)) = (nI (((sl + cp) + dp) * W)) from (nI_mul (a := (sl + cp) + dp) (b := W)))]
    refine mw_go mu_g206 (k := 3) (f1 := (76, [(3, .inl (nI ((sl + cp) + dp))), (0, .inr (.inr (some 100))), (1, .inl (nI sl)), (2, .inl (nI dp))], [.inl (mu_i Q6 100 17), .inl (nI ((sl + cp) + dp)), .inl (nI (((sl + cp) + dp) * W)), .inr (.inr (some 100))], Q6)) (C := [mu_is Q6 (some 100) 5]) rfl (show mu_is Q6 (some 100) 5 from (u6.1.1.is rfl)) ?_
    rw [(show mu_i Q6 100 17 = (nI W) from (ud_i (U := (upI (upI U 100 7 (nI (sl + cp))) 100 17 (nI W))) (m := m) (P := 100) (j := 17) d6 rfl))]
    refine mw_go mu_g206 (k := 1) (f1 := (77, [(3, .inl (nI ((sl + cp) + dp))), (0, .inr (.inr (some 100))), (1, .inl (nI sl)), (2, .inl (nI dp))], [.inl ((nI ((sl + cp) + dp)) * (nI W)), .inl (nI (((sl + cp) + dp) * W)), .inr (.inr (some 100))], Q6)) (C := []) rfl trivial ?_
    rw [(show ((nI ((sl + cp) + dp)) * (nI W)) = (nI (((sl + cp) + dp) * W)) from (nI_mul (a := (sl + cp) + dp) (b := W)))]
    refine mw_go mu_g206 (k := 1) (f1 := (80, [(3, .inl (nI ((sl + cp) + dp))), (0, .inr (.inr (some 100))), (1, .inl (nI sl)), (2, .inl (nI dp))], [.inl (4096 : Int32), .inl (nI (((sl + cp) + dp) * W)), .inl (nI (((sl + cp) + dp) * W)), .inr (.inr (some 100))], Q6)) (C := []) rfl trivial ?_
    refine mw_if (P := (4096 : Int32) < (nI (((sl + cp) + dp) * W))) (a := 89) (b := 83) (fun _ => rfl) trivial (fun h8 => ?_) (fun h8 => ?_)
    · -- 89: (4096 : Int32) < (nI (((sl + cp) + dp) * W))
      have nh8 : 4096 < (((sl + cp) + dp) * W) := (nI_ltI (by omega) (by omega)).mp (show nI 4096 < nI (((sl + cp) + dp) * W) from h8)
      refine mw_go mu_g206 (k := 1) (f1 := (91, [(3, .inl (nI ((sl + cp) + dp))), (0, .inr (.inr (some 100))), (1, .inl (nI sl)), (2, .inl (nI dp))], [.inl (32768 : Int32), .inl (nI (((sl + cp) + dp) * W)), .inr (.inr (some 100))], Q6)) (C := []) rfl trivial ?_
      refine mw_cIe (fun _ => rfl) trivial (mu_max_ok (d := (d + 1)) (nI (((sl + cp) + dp) * W)) (32768 : Int32)) ?_
      rw [show (mu_max (nI (((sl + cp) + dp) * W)) (32768 : Int32)) = nI (max (((sl + cp) + dp) * W) 32768) from mu_max_n (a := ((sl + cp) + dp) * W) (b := 32768) (by omega) (by omega)]
      refine mw_go mu_g206 (k := 2) (f1 := (99, [(3, .inl (nI ((sl + cp) + dp))), (0, .inr (.inr (some 100))), (1, .inl (nI sl)), (2, .inl (nI dp))], [], (mu_sr (mu_nw Q6 100 (nI (max (((sl + cp) + dp) * W) 32768)).toNatClampNeg (nI (max (((sl + cp) + dp) * W) 32768)).toNatClampNeg) 100 8 (some (mu_z Q6))))) (C := [¬ (nI (max (((sl + cp) + dp) * W) 32768)) < 0, (nI (max (((sl + cp) + dp) * W) 32768)).toNatClampNeg * ev_bytes 0 ≤ 536870912, mu_z Q6 + 1 ≤ 1000000, mu_is (mu_nw Q6 100 (nI (max (((sl + cp) + dp) * W) 32768)).toNatClampNeg (nI (max (((sl + cp) + dp) * W) 32768)).toNatClampNeg) (some 100) 5]) rfl (show (¬ (nI (max (((sl + cp) + dp) * W) 32768)) < 0) ∧ ((nI (max (((sl + cp) + dp) * W) 32768)).toNatClampNeg * ev_bytes 0 ≤ 536870912) ∧ (mu_z Q6 + 1 ≤ 1000000) ∧ (mu_is (mu_nw Q6 100 (nI (max (((sl + cp) + dp) * W) 32768)).toNatClampNeg (nI (max (((sl + cp) + dp) * W) 32768)).toNatClampNeg) (some 100) 5) from ⟨(nI_pos (by omega)), (by rw [(show (nI (max (((sl + cp) + dp) * W) 32768)).toNatClampNeg = max (((sl + cp) + dp) * W) 32768 from nI_clamp (by omega))]; show (max (((sl + cp) + dp) * W) 32768) * 4 ≤ 536870912; omega), u6.1.1.z, (mu_is_nw (u6.1.1.is rfl))⟩) ?_
      rw [(show (nI (max (((sl + cp) + dp) * W) 32768)).toNatClampNeg = max (((sl + cp) + dp) * W) 32768 from nI_clamp (by omega))]
      obtain ⟨u10, r10, d10⟩ : um m (mu_sr (mu_nw Q6 100 (max (((sl + cp) + dp) * W) 32768) (max (((sl + cp) + dp) * W) 32768)) 100 8 (some (mu_z Q6))) ∧ ur m C Q6 (mu_sr (mu_nw Q6 100 (max (((sl + cp) + dp) * W) 32768) (max (((sl + cp) + dp) * W) 32768)) 100 8 (some (mu_z Q6))) ∧ ud m (mu_sr (mu_nw Q6 100 (max (((sl + cp) + dp) * W) 32768) (max (((sl + cp) + dp) * W) 32768)) 100 8 (some (mu_z Q6))) = (upN (upI (upI U 100 7 (nI (sl + cp))) 100 17 (nI W)) 100 8 (max (((sl + cp) + dp) * W) 32768) (mu_z Q6)) := (by have z := u6.newA (C := C) (P := 100) (J := 8) (N := max (((sl + cp) + dp) * W) 32768) rfl rfl rfl (by rw [(show gi_len Q6 (100, 8) = (U.2.2.1 100 8).1 from (ud_n (m := m) (P := 100) (J := 8) d6 rfl rfl).trans (show ((upI (upI U 100 7 (nI (sl + cp))) 100 17 (nI W)).2.2.1 100 8).1 = (U.2.2.1 100 8).1 from rfl))]; (unfold clz at hcl; omega)) (by (unfold clz at hcl; omega)); rw [d6] at z; exact z)
      generalize (mu_sr (mu_nw Q6 100 (max (((sl + cp) + dp) * W) 32768) (max (((sl + cp) + dp) * W) 32768)) 100 8 (some (mu_z Q6))) = Q10 at u10 r10 d10 ⊢
      have qf10 : uq F206 U (upN (upI (upI U 100 7 (nI (sl + cp))) 100 17 (nI W)) 100 8 (max (((sl + cp) + dp) * W) 32768) (mu_z Q6)) := qf6.N rfl rfl
      have ht10 : ur m C H Q10 := ht6.trans r10
      refine mw_go mu_g206 (k := 3) (f1 := (104, [(3, .inl (nI ((sl + cp) + dp))), (0, .inr (.inr (some 100))), (1, .inl (nI sl)), (2, .inl (nI dp))], [.inr (.inr (mu_r Q10 100 12)), .inr (.inr (some 100))], Q10)) (C := [mu_is Q10 (some 100) 5]) rfl (show mu_is Q10 (some 100) 5 from (u10.1.1.is rfl)) ?_
      rw [(show mu_r Q10 100 12 = (U.2.2.2.1 100 12) from (ud_q (U := (upN (upI (upI U 100 7 (nI (sl + cp))) 100 17 (nI W)) 100 8 (max (((sl + cp) + dp) * W) 32768) (mu_z Q6))) (m := m) (P := 100) (j := 12) d10 rfl))]
      refine mw_go mu_g206 (k := 1) (f1 := (105, [(3, .inl (nI ((sl + cp) + dp))), (0, .inr (.inr (some 100))), (1, .inl (nI sl)), (2, .inl (nI dp))], [.inl (nI ((sl + cp) + dp)), .inr (.inr (U.2.2.2.1 100 12)), .inr (.inr (some 100))], Q10)) (C := []) rfl trivial ?_
      refine mw_cA (fun _ => rfl) trivial (fit_ok (d := d) (N := (sl + cp) + dp) (u10.iA d10 rfl rfl (show (upN (upI (upI U 100 7 (nI (sl + cp))) 100 17 (nI W)) 100 8 (max (((sl + cp) + dp) * W) 32768) (mu_z Q6)).2.2.2.1 100 12 = (U.2.2.2.1 100 12) from rfl)) (by omega) (by rw [show mu_n Q10 (mu_p (U.2.2.2.1 100 12)) = (U.2.2.1 100 12).1 from (u10.nA d10 rfl rfl (show (upN (upI (upI U 100 7 (nI (sl + cp))) 100 17 (nI W)) 100 8 (max (((sl + cp) + dp) * W) 32768) (mu_z Q6)).2.2.2.1 100 12 = (U.2.2.2.1 100 12) from rfl) (show ((upN (upI (upI U 100 7 (nI (sl + cp))) 100 17 (nI W)) 100 8 (max (((sl + cp) + dp) * W) 32768) (mu_z Q6)).2.2.1 100 12).1 = (U.2.2.1 100 12).1 from rfl))]; omega) u10.1.1.z) (fun x11 E11 q11 => ?_)
      refine mw_go mu_g206 (k := 1) (f1 := (111, [(3, .inl (nI ((sl + cp) + dp))), (0, .inr (.inr (some 100))), (1, .inl (nI sl)), (2, .inl (nI dp))], [], (mu_sr E11 100 12 x11))) (C := [mu_is E11 (some 100) 5]) rfl (show mu_is E11 (some 100) 5 from fitA_is (u10.1.1.is rfl) q11) ?_
      obtain ⟨u11, r11, z11, fl11, fb11⟩ := u10.fitA (C := C) (P := 100) (J := 12) (N := (sl + cp) + dp) (Fr := (⟨[], [], [(100, 12)], [(100, 12)], [], false⟩ : Uf)) d10 rfl rfl rfl ((ud_q (m := m) (P := 100) (j := 12) d10 rfl).trans (show (upN (upI (upI U 100 7 (nI (sl + cp))) 100 17 (nI W)) 100 8 (max (((sl + cp) + dp) * W) 32768) (mu_z Q6)).2.2.2.1 100 12 = (U.2.2.2.1 100 12) from rfl)) (by rw [(show ((upN (upI (upI U 100 7 (nI (sl + cp))) 100 17 (nI W)) 100 8 (max (((sl + cp) + dp) * W) 32768) (mu_z Q6)).2.2.1 100 12).1 = (U.2.2.1 100 12).1 from rfl)]; omega) (by omega) q11 rfl rfl
      generalize (mu_sr E11 100 12 x11) = Q11 at u11 r11 z11 fl11 fb11 ⊢
      have ht11 : ur m C H Q11 := ht10.trans r11
      obtain ⟨V11, d11⟩ : ∃ V, ud m Q11 = V := ⟨_, rfl⟩
      rw [d11] at z11 fl11 fb11
      rw [(show ((upN (upI (upI U 100 7 (nI (sl + cp))) 100 17 (nI W)) 100 8 (max (((sl + cp) + dp) * W) 32768) (mu_z Q6)).2.2.1 100 12).1 = (U.2.2.1 100 12).1 from rfl)] at fb11
      have qf11 : uq F206 U V11 := qf10.tr z11 rfl
      refine mw_go mu_g206 (k := 3) (f1 := (116, [(3, .inl (nI ((sl + cp) + dp))), (0, .inr (.inr (some 100))), (1, .inl (nI sl)), (2, .inl (nI dp))], [.inr (.inr (mu_r Q11 100 13)), .inr (.inr (some 100))], Q11)) (C := [mu_is Q11 (some 100) 5]) rfl (show mu_is Q11 (some 100) 5 from (u11.1.1.is rfl)) ?_
      rw [(show mu_r Q11 100 13 = (U.2.2.2.1 100 13) from (ud_q (U := V11) (m := m) (P := 100) (j := 13) d11 rfl).trans (z11.r 100 13 rfl))]
      refine mw_go mu_g206 (k := 3) (f1 := (119, [(3, .inl (nI ((sl + cp) + dp))), (0, .inr (.inr (some 100))), (1, .inl (nI sl)), (2, .inl (nI dp))], [.inl ((nI dp) + (1 : Int32)), .inr (.inr (U.2.2.2.1 100 13)), .inr (.inr (some 100))], Q11)) (C := []) rfl trivial ?_
      rw [(show ((nI dp) + (1 : Int32)) = (nI (dp + 1)) from (nI_add dp 1))]
      refine mw_cA (fun _ => rfl) trivial (fit_ok (d := d) (N := dp + 1) (u11.iA d11 rfl rfl (show V11.2.2.2.1 100 13 = (U.2.2.2.1 100 13) from (z11.r 100 13 rfl))) (by omega) (by rw [show mu_n Q11 (mu_p (U.2.2.2.1 100 13)) = (U.2.2.1 100 13).1 from (u11.nA d11 rfl rfl (show V11.2.2.2.1 100 13 = (U.2.2.2.1 100 13) from (z11.r 100 13 rfl)) (show (V11.2.2.1 100 13).1 = (U.2.2.1 100 13).1 from (z11.n 100 13 rfl)))]; omega) u11.1.1.z) (fun x12 E12 q12 => ?_)
      refine mw_go mu_g206 (k := 1) (f1 := (125, [(3, .inl (nI ((sl + cp) + dp))), (0, .inr (.inr (some 100))), (1, .inl (nI sl)), (2, .inl (nI dp))], [], (mu_sr E12 100 13 x12))) (C := [mu_is E12 (some 100) 5]) rfl (show mu_is E12 (some 100) 5 from fitA_is (u11.1.1.is rfl) q12) ?_
      obtain ⟨u12, r12, z12, fl12, fb12⟩ := u11.fitA (C := C) (P := 100) (J := 13) (N := dp + 1) (Fr := (⟨[], [], [(100, 13)], [(100, 13)], [], false⟩ : Uf)) d11 rfl rfl rfl ((ud_q (m := m) (P := 100) (j := 13) d11 rfl).trans (show V11.2.2.2.1 100 13 = (U.2.2.2.1 100 13) from (z11.r 100 13 rfl))) (by rw [(show (V11.2.2.1 100 13).1 = (U.2.2.1 100 13).1 from (z11.n 100 13 rfl))]; omega) (by omega) q12 rfl rfl
      generalize (mu_sr E12 100 13 x12) = Q12 at u12 r12 z12 fl12 fb12 ⊢
      have ht12 : ur m C H Q12 := ht11.trans r12
      obtain ⟨V12, d12⟩ : ∃ V, ud m Q12 = V := ⟨_, rfl⟩
      rw [d12] at z12 fl12 fb12
      rw [(show (V11.2.2.1 100 13).1 = (U.2.2.1 100 13).1 from (z11.n 100 13 rfl))] at fb12
      have qf12 : uq F206 U V12 := qf11.tr z12 rfl
      refine mw_go mu_g206 (k := 3) (f1 := (130, [(3, .inl (nI ((sl + cp) + dp))), (0, .inr (.inr (some 100))), (1, .inl (nI sl)), (2, .inl (nI dp))], [.inr (.inr (mu_r Q12 100 15)), .inr (.inr (some 100))], Q12)) (C := [mu_is Q12 (some 100) 5]) rfl (show mu_is Q12 (some 100) 5 from (u12.1.1.is rfl)) ?_
      rw [(show mu_r Q12 100 15 = (U.2.2.2.1 100 15) from (ud_q (U := V12) (m := m) (P := 100) (j := 15) d12 rfl).trans ((z12.r 100 15 rfl).trans (z11.r 100 15 rfl)))]
      refine mw_go mu_g206 (k := 2) (f1 := (134, [(3, .inl (nI ((sl + cp) + dp))), (0, .inr (.inr (some 100))), (1, .inl (nI sl)), (2, .inl (nI dp))], [.inl (mu_i Q12 100 5), .inr (.inr (U.2.2.2.1 100 15)), .inr (.inr (some 100))], Q12)) (C := [mu_is Q12 (some 100) 5]) rfl (show mu_is Q12 (some 100) 5 from (u12.1.1.is rfl)) ?_
      rw [(show mu_i Q12 100 5 = (nI cp) from (ud_i (U := V12) (m := m) (P := 100) (j := 5) d12 rfl).trans ((z12.i 100 5 rfl).trans ((z11.i 100 5 rfl).trans hcp)))]
      refine mw_go mu_g206 (k := 2) (f1 := (136, [(3, .inl (nI ((sl + cp) + dp))), (0, .inr (.inr (some 100))), (1, .inl (nI sl)), (2, .inl (nI dp))], [.inl ((nI cp) + (2 : Int32)), .inr (.inr (U.2.2.2.1 100 15)), .inr (.inr (some 100))], Q12)) (C := []) rfl trivial ?_
      rw [(show ((nI cp) + (2 : Int32)) = (nI (cp + 2)) from (nI_add cp 2))]
      refine mw_cA (fun _ => rfl) trivial (fit_ok (d := d) (N := cp + 2) (u12.iA d12 rfl rfl (show V12.2.2.2.1 100 15 = (U.2.2.2.1 100 15) from ((z12.r 100 15 rfl).trans (z11.r 100 15 rfl)))) (by omega) (by rw [show mu_n Q12 (mu_p (U.2.2.2.1 100 15)) = (U.2.2.1 100 15).1 from (u12.nA d12 rfl rfl (show V12.2.2.2.1 100 15 = (U.2.2.2.1 100 15) from ((z12.r 100 15 rfl).trans (z11.r 100 15 rfl))) (show (V12.2.2.1 100 15).1 = (U.2.2.1 100 15).1 from ((z12.n 100 15 rfl).trans (z11.n 100 15 rfl))))]; omega) u12.1.1.z) (fun x13 E13 q13 => ?_)
      refine mw_go mu_g206 (k := 1) (f1 := (142, [(3, .inl (nI ((sl + cp) + dp))), (0, .inr (.inr (some 100))), (1, .inl (nI sl)), (2, .inl (nI dp))], [], (mu_sr E13 100 15 x13))) (C := [mu_is E13 (some 100) 5]) rfl (show mu_is E13 (some 100) 5 from fitA_is (u12.1.1.is rfl) q13) ?_
      obtain ⟨u13, r13, z13, fl13, fb13⟩ := u12.fitA (C := C) (P := 100) (J := 15) (N := cp + 2) (Fr := (⟨[], [], [(100, 15)], [(100, 15)], [], false⟩ : Uf)) d12 rfl rfl rfl ((ud_q (m := m) (P := 100) (j := 15) d12 rfl).trans (show V12.2.2.2.1 100 15 = (U.2.2.2.1 100 15) from ((z12.r 100 15 rfl).trans (z11.r 100 15 rfl)))) (by rw [(show (V12.2.2.1 100 15).1 = (U.2.2.1 100 15).1 from ((z12.n 100 15 rfl).trans (z11.n 100 15 rfl)))]; omega) (by omega) q13 rfl rfl
      generalize (mu_sr E13 100 15 x13) = Q13 at u13 r13 z13 fl13 fb13 ⊢
      have ht13 : ur m C H Q13 := ht12.trans r13
      obtain ⟨V13, d13⟩ : ∃ V, ud m Q13 = V := ⟨_, rfl⟩
      rw [d13] at z13 fl13 fb13
      rw [(show (V12.2.2.1 100 15).1 = (U.2.2.1 100 15).1 from ((z12.n 100 15 rfl).trans (z11.n 100 15 rfl)))] at fb13
      have qf13 : uq F206 U V13 := qf12.tr z13 rfl
      exact mw_of (fun _ => mu_ret rfl trivial ⟨Q13, rfl, u13, ht13, (by rw [d13]; exact qf13), W, (by rw [d13]; exact ⟨((z13.i 100 7 rfl).trans ((z12.i 100 7 rfl).trans (z11.i 100 7 rfl))), ((z13.i 100 17 rfl).trans ((z12.i 100 17 rfl).trans (z11.i 100 17 rfl))), hW1, hW2, by rw [(show (V13.2.2.1 100 8).1 = max (((sl + cp) + dp) * W) 32768 from ((z13.n 100 8 rfl).trans ((z12.n 100 8 rfl).trans (z11.n 100 8 rfl))))]; omega, by rw [(show (V13.2.2.1 100 8).1 = max (((sl + cp) + dp) * W) 32768 from ((z13.n 100 8 rfl).trans ((z12.n 100 8 rfl).trans (z11.n 100 8 rfl))))]; unfold clz at *; omega, ⟨by rw [(show (V13.2.2.1 100 12).1 = (V11.2.2.1 100 12).1 from ((z13.n 100 12 rfl).trans (z12.n 100 12 rfl)))]; omega, by rw [(show (V13.2.2.1 100 12).1 = (V11.2.2.1 100 12).1 from ((z13.n 100 12 rfl).trans (z12.n 100 12 rfl)))]; omega⟩, ⟨by rw [(show (V13.2.2.1 100 13).1 = (V12.2.2.1 100 13).1 from (z13.n 100 13 rfl))]; omega, by rw [(show (V13.2.2.1 100 13).1 = (V12.2.2.1 100 13).1 from (z13.n 100 13 rfl))]; omega⟩, by rw [(show (V13.2.2.1 100 15).1 = (V13.2.2.1 100 15).1 from rfl)]; omega, by rw [(show (V13.2.2.1 100 15).1 = (V13.2.2.1 100 15).1 from rfl)]; omega⟩)⟩)
    · -- 83: not (4096 : Int32) < (nI (((sl + cp) + dp) * W))
      have nh8 : ¬ 4096 < (((sl + cp) + dp) * W) := fun z => h8 (show nI 4096 < nI (((sl + cp) + dp) * W) from (nI_ltI (by omega) (by omega)).mpr z)
      refine mw_go mu_g206 (k := 2) (f1 := (91, [(3, .inl (nI ((sl + cp) + dp))), (0, .inr (.inr (some 100))), (1, .inl (nI sl)), (2, .inl (nI dp))], [.inl (4096 : Int32), .inl (nI (((sl + cp) + dp) * W)), .inr (.inr (some 100))], Q6)) (C := []) rfl trivial ?_
      refine mw_cIe (fun _ => rfl) trivial (mu_max_ok (d := (d + 1)) (nI (((sl + cp) + dp) * W)) (4096 : Int32)) ?_
      rw [show (mu_max (nI (((sl + cp) + dp) * W)) (4096 : Int32)) = nI (max (((sl + cp) + dp) * W) 4096) from mu_max_n (a := ((sl + cp) + dp) * W) (b := 4096) (by omega) (by omega)]
      refine mw_go mu_g206 (k := 2) (f1 := (99, [(3, .inl (nI ((sl + cp) + dp))), (0, .inr (.inr (some 100))), (1, .inl (nI sl)), (2, .inl (nI dp))], [], (mu_sr (mu_nw Q6 100 (nI (max (((sl + cp) + dp) * W) 4096)).toNatClampNeg (nI (max (((sl + cp) + dp) * W) 4096)).toNatClampNeg) 100 8 (some (mu_z Q6))))) (C := [¬ (nI (max (((sl + cp) + dp) * W) 4096)) < 0, (nI (max (((sl + cp) + dp) * W) 4096)).toNatClampNeg * ev_bytes 0 ≤ 536870912, mu_z Q6 + 1 ≤ 1000000, mu_is (mu_nw Q6 100 (nI (max (((sl + cp) + dp) * W) 4096)).toNatClampNeg (nI (max (((sl + cp) + dp) * W) 4096)).toNatClampNeg) (some 100) 5]) rfl (show (¬ (nI (max (((sl + cp) + dp) * W) 4096)) < 0) ∧ ((nI (max (((sl + cp) + dp) * W) 4096)).toNatClampNeg * ev_bytes 0 ≤ 536870912) ∧ (mu_z Q6 + 1 ≤ 1000000) ∧ (mu_is (mu_nw Q6 100 (nI (max (((sl + cp) + dp) * W) 4096)).toNatClampNeg (nI (max (((sl + cp) + dp) * W) 4096)).toNatClampNeg) (some 100) 5) from ⟨(nI_pos (by omega)), (by rw [(show (nI (max (((sl + cp) + dp) * W) 4096)).toNatClampNeg = max (((sl + cp) + dp) * W) 4096 from nI_clamp (by omega))]; show (max (((sl + cp) + dp) * W) 4096) * 4 ≤ 536870912; omega), u6.1.1.z, (mu_is_nw (u6.1.1.is rfl))⟩) ?_
      rw [(show (nI (max (((sl + cp) + dp) * W) 4096)).toNatClampNeg = max (((sl + cp) + dp) * W) 4096 from nI_clamp (by omega))]
      obtain ⟨u15, r15, d15⟩ : um m (mu_sr (mu_nw Q6 100 (max (((sl + cp) + dp) * W) 4096) (max (((sl + cp) + dp) * W) 4096)) 100 8 (some (mu_z Q6))) ∧ ur m C Q6 (mu_sr (mu_nw Q6 100 (max (((sl + cp) + dp) * W) 4096) (max (((sl + cp) + dp) * W) 4096)) 100 8 (some (mu_z Q6))) ∧ ud m (mu_sr (mu_nw Q6 100 (max (((sl + cp) + dp) * W) 4096) (max (((sl + cp) + dp) * W) 4096)) 100 8 (some (mu_z Q6))) = (upN (upI (upI U 100 7 (nI (sl + cp))) 100 17 (nI W)) 100 8 (max (((sl + cp) + dp) * W) 4096) (mu_z Q6)) := (by have z := u6.newA (C := C) (P := 100) (J := 8) (N := max (((sl + cp) + dp) * W) 4096) rfl rfl rfl (by rw [(show gi_len Q6 (100, 8) = (U.2.2.1 100 8).1 from (ud_n (m := m) (P := 100) (J := 8) d6 rfl rfl).trans (show ((upI (upI U 100 7 (nI (sl + cp))) 100 17 (nI W)).2.2.1 100 8).1 = (U.2.2.1 100 8).1 from rfl))]; (unfold clz at hcl; omega)) (by (unfold clz at hcl; omega)); rw [d6] at z; exact z)
      generalize (mu_sr (mu_nw Q6 100 (max (((sl + cp) + dp) * W) 4096) (max (((sl + cp) + dp) * W) 4096)) 100 8 (some (mu_z Q6))) = Q15 at u15 r15 d15 ⊢
      have qf15 : uq F206 U (upN (upI (upI U 100 7 (nI (sl + cp))) 100 17 (nI W)) 100 8 (max (((sl + cp) + dp) * W) 4096) (mu_z Q6)) := qf6.N rfl rfl
      have ht15 : ur m C H Q15 := ht6.trans r15
      refine mw_go mu_g206 (k := 3) (f1 := (104, [(3, .inl (nI ((sl + cp) + dp))), (0, .inr (.inr (some 100))), (1, .inl (nI sl)), (2, .inl (nI dp))], [.inr (.inr (mu_r Q15 100 12)), .inr (.inr (some 100))], Q15)) (C := [mu_is Q15 (some 100) 5]) rfl (show mu_is Q15 (some 100) 5 from (u15.1.1.is rfl)) ?_
      rw [(show mu_r Q15 100 12 = (U.2.2.2.1 100 12) from (ud_q (U := (upN (upI (upI U 100 7 (nI (sl + cp))) 100 17 (nI W)) 100 8 (max (((sl + cp) + dp) * W) 4096) (mu_z Q6))) (m := m) (P := 100) (j := 12) d15 rfl))]
      refine mw_go mu_g206 (k := 1) (f1 := (105, [(3, .inl (nI ((sl + cp) + dp))), (0, .inr (.inr (some 100))), (1, .inl (nI sl)), (2, .inl (nI dp))], [.inl (nI ((sl + cp) + dp)), .inr (.inr (U.2.2.2.1 100 12)), .inr (.inr (some 100))], Q15)) (C := []) rfl trivial ?_
      refine mw_cA (fun _ => rfl) trivial (fit_ok (d := d) (N := (sl + cp) + dp) (u15.iA d15 rfl rfl (show (upN (upI (upI U 100 7 (nI (sl + cp))) 100 17 (nI W)) 100 8 (max (((sl + cp) + dp) * W) 4096) (mu_z Q6)).2.2.2.1 100 12 = (U.2.2.2.1 100 12) from rfl)) (by omega) (by rw [show mu_n Q15 (mu_p (U.2.2.2.1 100 12)) = (U.2.2.1 100 12).1 from (u15.nA d15 rfl rfl (show (upN (upI (upI U 100 7 (nI (sl + cp))) 100 17 (nI W)) 100 8 (max (((sl + cp) + dp) * W) 4096) (mu_z Q6)).2.2.2.1 100 12 = (U.2.2.2.1 100 12) from rfl) (show ((upN (upI (upI U 100 7 (nI (sl + cp))) 100 17 (nI W)) 100 8 (max (((sl + cp) + dp) * W) 4096) (mu_z Q6)).2.2.1 100 12).1 = (U.2.2.1 100 12).1 from rfl))]; omega) u15.1.1.z) (fun x16 E16 q16 => ?_)
      refine mw_go mu_g206 (k := 1) (f1 := (111, [(3, .inl (nI ((sl + cp) + dp))), (0, .inr (.inr (some 100))), (1, .inl (nI sl)), (2, .inl (nI dp))], [], (mu_sr E16 100 12 x16))) (C := [mu_is E16 (some 100) 5]) rfl (show mu_is E16 (some 100) 5 from fitA_is (u15.1.1.is rfl) q16) ?_
      obtain ⟨u16, r16, z16, fl16, fb16⟩ := u15.fitA (C := C) (P := 100) (J := 12) (N := (sl + cp) + dp) (Fr := (⟨[], [], [(100, 12)], [(100, 12)], [], false⟩ : Uf)) d15 rfl rfl rfl ((ud_q (m := m) (P := 100) (j := 12) d15 rfl).trans (show (upN (upI (upI U 100 7 (nI (sl + cp))) 100 17 (nI W)) 100 8 (max (((sl + cp) + dp) * W) 4096) (mu_z Q6)).2.2.2.1 100 12 = (U.2.2.2.1 100 12) from rfl)) (by rw [(show ((upN (upI (upI U 100 7 (nI (sl + cp))) 100 17 (nI W)) 100 8 (max (((sl + cp) + dp) * W) 4096) (mu_z Q6)).2.2.1 100 12).1 = (U.2.2.1 100 12).1 from rfl)]; omega) (by omega) q16 rfl rfl
      generalize (mu_sr E16 100 12 x16) = Q16 at u16 r16 z16 fl16 fb16 ⊢
      have ht16 : ur m C H Q16 := ht15.trans r16
      obtain ⟨V16, d16⟩ : ∃ V, ud m Q16 = V := ⟨_, rfl⟩
      rw [d16] at z16 fl16 fb16
      rw [(show ((upN (upI (upI U 100 7 (nI (sl + cp))) 100 17 (nI W)) 100 8 (max (((sl + cp) + dp) * W) 4096) (mu_z Q6)).2.2.1 100 12).1 = (U.2.2.1 100 12).1 from rfl)] at fb16
      have qf16 : uq F206 U V16 := qf15.tr z16 rfl
      refine mw_go mu_g206 (k := 3) (f1 := (116, [(3, .inl (nI ((sl + cp) + dp))), (0, .inr (.inr (some 100))), (1, .inl (nI sl)), (2, .inl (nI dp))], [.inr (.inr (mu_r Q16 100 13)), .inr (.inr (some 100))], Q16)) (C := [mu_is Q16 (some 100) 5]) rfl (show mu_is Q16 (some 100) 5 from (u16.1.1.is rfl)) ?_
      rw [(show mu_r Q16 100 13 = (U.2.2.2.1 100 13) from (ud_q (U := V16) (m := m) (P := 100) (j := 13) d16 rfl).trans (z16.r 100 13 rfl))]
      refine mw_go mu_g206 (k := 3) (f1 := (119, [(3, .inl (nI ((sl + cp) + dp))), (0, .inr (.inr (some 100))), (1, .inl (nI sl)), (2, .inl (nI dp))], [.inl ((nI dp) + (1 : Int32)), .inr (.inr (U.2.2.2.1 100 13)), .inr (.inr (some 100))], Q16)) (C := []) rfl trivial ?_
      rw [(show ((nI dp) + (1 : Int32)) = (nI (dp + 1)) from (nI_add dp 1))]
      refine mw_cA (fun _ => rfl) trivial (fit_ok (d := d) (N := dp + 1) (u16.iA d16 rfl rfl (show V16.2.2.2.1 100 13 = (U.2.2.2.1 100 13) from (z16.r 100 13 rfl))) (by omega) (by rw [show mu_n Q16 (mu_p (U.2.2.2.1 100 13)) = (U.2.2.1 100 13).1 from (u16.nA d16 rfl rfl (show V16.2.2.2.1 100 13 = (U.2.2.2.1 100 13) from (z16.r 100 13 rfl)) (show (V16.2.2.1 100 13).1 = (U.2.2.1 100 13).1 from (z16.n 100 13 rfl)))]; omega) u16.1.1.z) (fun x17 E17 q17 => ?_)
      refine mw_go mu_g206 (k := 1) (f1 := (125, [(3, .inl (nI ((sl + cp) + dp))), (0, .inr (.inr (some 100))), (1, .inl (nI sl)), (2, .inl (nI dp))], [], (mu_sr E17 100 13 x17))) (C := [mu_is E17 (some 100) 5]) rfl (show mu_is E17 (some 100) 5 from fitA_is (u16.1.1.is rfl) q17) ?_
      obtain ⟨u17, r17, z17, fl17, fb17⟩ := u16.fitA (C := C) (P := 100) (J := 13) (N := dp + 1) (Fr := (⟨[], [], [(100, 13)], [(100, 13)], [], false⟩ : Uf)) d16 rfl rfl rfl ((ud_q (m := m) (P := 100) (j := 13) d16 rfl).trans (show V16.2.2.2.1 100 13 = (U.2.2.2.1 100 13) from (z16.r 100 13 rfl))) (by rw [(show (V16.2.2.1 100 13).1 = (U.2.2.1 100 13).1 from (z16.n 100 13 rfl))]; omega) (by omega) q17 rfl rfl
      generalize (mu_sr E17 100 13 x17) = Q17 at u17 r17 z17 fl17 fb17 ⊢
      have ht17 : ur m C H Q17 := ht16.trans r17
      obtain ⟨V17, d17⟩ : ∃ V, ud m Q17 = V := ⟨_, rfl⟩
      rw [d17] at z17 fl17 fb17
      rw [(show (V16.2.2.1 100 13).1 = (U.2.2.1 100 13).1 from (z16.n 100 13 rfl))] at fb17
      have qf17 : uq F206 U V17 := qf16.tr z17 rfl
      refine mw_go mu_g206 (k := 3) (f1 := (130, [(3, .inl (nI ((sl + cp) + dp))), (0, .inr (.inr (some 100))), (1, .inl (nI sl)), (2, .inl (nI dp))], [.inr (.inr (mu_r Q17 100 15)), .inr (.inr (some 100))], Q17)) (C := [mu_is Q17 (some 100) 5]) rfl (show mu_is Q17 (some 100) 5 from (u17.1.1.is rfl)) ?_
      rw [(show mu_r Q17 100 15 = (U.2.2.2.1 100 15) from (ud_q (U := V17) (m := m) (P := 100) (j := 15) d17 rfl).trans ((z17.r 100 15 rfl).trans (z16.r 100 15 rfl)))]
      refine mw_go mu_g206 (k := 2) (f1 := (134, [(3, .inl (nI ((sl + cp) + dp))), (0, .inr (.inr (some 100))), (1, .inl (nI sl)), (2, .inl (nI dp))], [.inl (mu_i Q17 100 5), .inr (.inr (U.2.2.2.1 100 15)), .inr (.inr (some 100))], Q17)) (C := [mu_is Q17 (some 100) 5]) rfl (show mu_is Q17 (some 100) 5 from (u17.1.1.is rfl)) ?_
      rw [(show mu_i Q17 100 5 = (nI cp) from (ud_i (U := V17) (m := m) (P := 100) (j := 5) d17 rfl).trans ((z17.i 100 5 rfl).trans ((z16.i 100 5 rfl).trans hcp)))]
      refine mw_go mu_g206 (k := 2) (f1 := (136, [(3, .inl (nI ((sl + cp) + dp))), (0, .inr (.inr (some 100))), (1, .inl (nI sl)), (2, .inl (nI dp))], [.inl ((nI cp) + (2 : Int32)), .inr (.inr (U.2.2.2.1 100 15)), .inr (.inr (some 100))], Q17)) (C := []) rfl trivial ?_
      rw [(show ((nI cp) + (2 : Int32)) = (nI (cp + 2)) from (nI_add cp 2))]
      refine mw_cA (fun _ => rfl) trivial (fit_ok (d := d) (N := cp + 2) (u17.iA d17 rfl rfl (show V17.2.2.2.1 100 15 = (U.2.2.2.1 100 15) from ((z17.r 100 15 rfl).trans (z16.r 100 15 rfl)))) (by omega) (by rw [show mu_n Q17 (mu_p (U.2.2.2.1 100 15)) = (U.2.2.1 100 15).1 from (u17.nA d17 rfl rfl (show V17.2.2.2.1 100 15 = (U.2.2.2.1 100 15) from ((z17.r 100 15 rfl).trans (z16.r 100 15 rfl))) (show (V17.2.2.1 100 15).1 = (U.2.2.1 100 15).1 from ((z17.n 100 15 rfl).trans (z16.n 100 15 rfl))))]; omega) u17.1.1.z) (fun x18 E18 q18 => ?_)
      refine mw_go mu_g206 (k := 1) (f1 := (142, [(3, .inl (nI ((sl + cp) + dp))), (0, .inr (.inr (some 100))), (1, .inl (nI sl)), (2, .inl (nI dp))], [], (mu_sr E18 100 15 x18))) (C := [mu_is E18 (some 100) 5]) rfl (show mu_is E18 (some 100) 5 from fitA_is (u17.1.1.is rfl) q18) ?_
      obtain ⟨u18, r18, z18, fl18, fb18⟩ := u17.fitA (C := C) (P := 100) (J := 15) (N := cp + 2) (Fr := (⟨[], [], [(100, 15)], [(100, 15)], [], false⟩ : Uf)) d17 rfl rfl rfl ((ud_q (m := m) (P := 100) (j := 15) d17 rfl).trans (show V17.2.2.2.1 100 15 = (U.2.2.2.1 100 15) from ((z17.r 100 15 rfl).trans (z16.r 100 15 rfl)))) (by rw [(show (V17.2.2.1 100 15).1 = (U.2.2.1 100 15).1 from ((z17.n 100 15 rfl).trans (z16.n 100 15 rfl)))]; omega) (by omega) q18 rfl rfl
      generalize (mu_sr E18 100 15 x18) = Q18 at u18 r18 z18 fl18 fb18 ⊢
      have ht18 : ur m C H Q18 := ht17.trans r18
      obtain ⟨V18, d18⟩ : ∃ V, ud m Q18 = V := ⟨_, rfl⟩
      rw [d18] at z18 fl18 fb18
      rw [(show (V17.2.2.1 100 15).1 = (U.2.2.1 100 15).1 from ((z17.n 100 15 rfl).trans (z16.n 100 15 rfl)))] at fb18
      have qf18 : uq F206 U V18 := qf17.tr z18 rfl
      exact mw_of (fun _ => mu_ret rfl trivial ⟨Q18, rfl, u18, ht18, (by rw [d18]; exact qf18), W, (by rw [d18]; exact ⟨((z18.i 100 7 rfl).trans ((z17.i 100 7 rfl).trans (z16.i 100 7 rfl))), ((z18.i 100 17 rfl).trans ((z17.i 100 17 rfl).trans (z16.i 100 17 rfl))), hW1, hW2, by rw [(show (V18.2.2.1 100 8).1 = max (((sl + cp) + dp) * W) 4096 from ((z18.n 100 8 rfl).trans ((z17.n 100 8 rfl).trans (z16.n 100 8 rfl))))]; omega, by rw [(show (V18.2.2.1 100 8).1 = max (((sl + cp) + dp) * W) 4096 from ((z18.n 100 8 rfl).trans ((z17.n 100 8 rfl).trans (z16.n 100 8 rfl))))]; unfold clz at *; omega, ⟨by rw [(show (V18.2.2.1 100 12).1 = (V16.2.2.1 100 12).1 from ((z18.n 100 12 rfl).trans (z17.n 100 12 rfl)))]; omega, by rw [(show (V18.2.2.1 100 12).1 = (V16.2.2.1 100 12).1 from ((z18.n 100 12 rfl).trans (z17.n 100 12 rfl)))]; omega⟩, ⟨by rw [(show (V18.2.2.1 100 13).1 = (V17.2.2.1 100 13).1 from (z18.n 100 13 rfl))]; omega, by rw [(show (V18.2.2.1 100 13).1 = (V17.2.2.1 100 13).1 from (z18.n 100 13 rfl))]; omega⟩, by rw [(show (V18.2.2.1 100 15).1 = (V18.2.2.1 100 15).1 from rfl)]; omega, by rw [(show (V18.2.2.1 100 15).1 = (V18.2.2.1 100 15).1 from rfl)]; omega⟩)⟩)
  · -- 99: not (nI ((U.2.2.1 100 8).1)) < (nI (((sl + cp) + dp) * W))
    have nh7 : ¬ ((U.2.2.1 100 8).1) < (((sl + cp) + dp) * W) := fun z => h7 (show nI ((U.2.2.1 100 8).1) < nI (((sl + cp) + dp) * W) from (nI_ltI (by omega) (by omega)).mpr z)
    refine mw_go mu_g206 (k := 3) (f1 := (104, [(3, .inl (nI ((sl + cp) + dp))), (0, .inr (.inr (some 100))), (1, .inl (nI sl)), (2, .inl (nI dp))], [.inr (.inr (mu_r Q6 100 12)), .inr (.inr (some 100))], Q6)) (C := [mu_is Q6 (some 100) 5]) rfl (show mu_is Q6 (some 100) 5 from (u6.1.1.is rfl)) ?_
    rw [(show mu_r Q6 100 12 = (U.2.2.2.1 100 12) from (ud_q (U := (upI (upI U 100 7 (nI (sl + cp))) 100 17 (nI W))) (m := m) (P := 100) (j := 12) d6 rfl))]
    refine mw_go mu_g206 (k := 1) (f1 := (105, [(3, .inl (nI ((sl + cp) + dp))), (0, .inr (.inr (some 100))), (1, .inl (nI sl)), (2, .inl (nI dp))], [.inl (nI ((sl + cp) + dp)), .inr (.inr (U.2.2.2.1 100 12)), .inr (.inr (some 100))], Q6)) (C := []) rfl trivial ?_
    refine mw_cA (fun _ => rfl) trivial (fit_ok (d := d) (N := (sl + cp) + dp) (u6.iA d6 rfl rfl (show (upI (upI U 100 7 (nI (sl + cp))) 100 17 (nI W)).2.2.2.1 100 12 = (U.2.2.2.1 100 12) from rfl)) (by omega) (by rw [show mu_n Q6 (mu_p (U.2.2.2.1 100 12)) = (U.2.2.1 100 12).1 from (u6.nA d6 rfl rfl (show (upI (upI U 100 7 (nI (sl + cp))) 100 17 (nI W)).2.2.2.1 100 12 = (U.2.2.2.1 100 12) from rfl) (show ((upI (upI U 100 7 (nI (sl + cp))) 100 17 (nI W)).2.2.1 100 12).1 = (U.2.2.1 100 12).1 from rfl))]; omega) u6.1.1.z) (fun x19 E19 q19 => ?_)
    refine mw_go mu_g206 (k := 1) (f1 := (111, [(3, .inl (nI ((sl + cp) + dp))), (0, .inr (.inr (some 100))), (1, .inl (nI sl)), (2, .inl (nI dp))], [], (mu_sr E19 100 12 x19))) (C := [mu_is E19 (some 100) 5]) rfl (show mu_is E19 (some 100) 5 from fitA_is (u6.1.1.is rfl) q19) ?_
    obtain ⟨u19, r19, z19, fl19, fb19⟩ := u6.fitA (C := C) (P := 100) (J := 12) (N := (sl + cp) + dp) (Fr := (⟨[], [], [(100, 12)], [(100, 12)], [], false⟩ : Uf)) d6 rfl rfl rfl ((ud_q (m := m) (P := 100) (j := 12) d6 rfl).trans (show (upI (upI U 100 7 (nI (sl + cp))) 100 17 (nI W)).2.2.2.1 100 12 = (U.2.2.2.1 100 12) from rfl)) (by rw [(show ((upI (upI U 100 7 (nI (sl + cp))) 100 17 (nI W)).2.2.1 100 12).1 = (U.2.2.1 100 12).1 from rfl)]; omega) (by omega) q19 rfl rfl
    generalize (mu_sr E19 100 12 x19) = Q19 at u19 r19 z19 fl19 fb19 ⊢
    have ht19 : ur m C H Q19 := ht6.trans r19
    obtain ⟨V19, d19⟩ : ∃ V, ud m Q19 = V := ⟨_, rfl⟩
    rw [d19] at z19 fl19 fb19
    rw [(show ((upI (upI U 100 7 (nI (sl + cp))) 100 17 (nI W)).2.2.1 100 12).1 = (U.2.2.1 100 12).1 from rfl)] at fb19
    have qf19 : uq F206 U V19 := qf6.tr z19 rfl
    refine mw_go mu_g206 (k := 3) (f1 := (116, [(3, .inl (nI ((sl + cp) + dp))), (0, .inr (.inr (some 100))), (1, .inl (nI sl)), (2, .inl (nI dp))], [.inr (.inr (mu_r Q19 100 13)), .inr (.inr (some 100))], Q19)) (C := [mu_is Q19 (some 100) 5]) rfl (show mu_is Q19 (some 100) 5 from (u19.1.1.is rfl)) ?_
    rw [(show mu_r Q19 100 13 = (U.2.2.2.1 100 13) from (ud_q (U := V19) (m := m) (P := 100) (j := 13) d19 rfl).trans (z19.r 100 13 rfl))]
    refine mw_go mu_g206 (k := 3) (f1 := (119, [(3, .inl (nI ((sl + cp) + dp))), (0, .inr (.inr (some 100))), (1, .inl (nI sl)), (2, .inl (nI dp))], [.inl ((nI dp) + (1 : Int32)), .inr (.inr (U.2.2.2.1 100 13)), .inr (.inr (some 100))], Q19)) (C := []) rfl trivial ?_
    rw [(show ((nI dp) + (1 : Int32)) = (nI (dp + 1)) from (nI_add dp 1))]
    refine mw_cA (fun _ => rfl) trivial (fit_ok (d := d) (N := dp + 1) (u19.iA d19 rfl rfl (show V19.2.2.2.1 100 13 = (U.2.2.2.1 100 13) from (z19.r 100 13 rfl))) (by omega) (by rw [show mu_n Q19 (mu_p (U.2.2.2.1 100 13)) = (U.2.2.1 100 13).1 from (u19.nA d19 rfl rfl (show V19.2.2.2.1 100 13 = (U.2.2.2.1 100 13) from (z19.r 100 13 rfl)) (show (V19.2.2.1 100 13).1 = (U.2.2.1 100 13).1 from (z19.n 100 13 rfl)))]; omega) u19.1.1.z) (fun x20 E20 q20 => ?_)
    refine mw_go mu_g206 (k := 1) (f1 := (125, [(3, .inl (nI ((sl + cp) + dp))), (0, .inr (.inr (some 100))), (1, .inl (nI sl)), (2, .inl (nI dp))], [], (mu_sr E20 100 13 x20))) (C := [mu_is E20 (some 100) 5]) rfl (show mu_is E20 (some 100) 5 from fitA_is (u19.1.1.is rfl) q20) ?_
    obtain ⟨u20, r20, z20, fl20, fb20⟩ := u19.fitA (C := C) (P := 100) (J := 13) (N := dp + 1) (Fr := (⟨[], [], [(100, 13)], [(100, 13)], [], false⟩ : Uf)) d19 rfl rfl rfl ((ud_q (m := m) (P := 100) (j := 13) d19 rfl).trans (show V19.2.2.2.1 100 13 = (U.2.2.2.1 100 13) from (z19.r 100 13 rfl))) (by rw [(show (V19.2.2.1 100 13).1 = (U.2.2.1 100 13).1 from (z19.n 100 13 rfl))]; omega) (by omega) q20 rfl rfl
    generalize (mu_sr E20 100 13 x20) = Q20 at u20 r20 z20 fl20 fb20 ⊢
    have ht20 : ur m C H Q20 := ht19.trans r20
    obtain ⟨V20, d20⟩ : ∃ V, ud m Q20 = V := ⟨_, rfl⟩
    rw [d20] at z20 fl20 fb20
    rw [(show (V19.2.2.1 100 13).1 = (U.2.2.1 100 13).1 from (z19.n 100 13 rfl))] at fb20
    have qf20 : uq F206 U V20 := qf19.tr z20 rfl
    refine mw_go mu_g206 (k := 3) (f1 := (130, [(3, .inl (nI ((sl + cp) + dp))), (0, .inr (.inr (some 100))), (1, .inl (nI sl)), (2, .inl (nI dp))], [.inr (.inr (mu_r Q20 100 15)), .inr (.inr (some 100))], Q20)) (C := [mu_is Q20 (some 100) 5]) rfl (show mu_is Q20 (some 100) 5 from (u20.1.1.is rfl)) ?_
    rw [(show mu_r Q20 100 15 = (U.2.2.2.1 100 15) from (ud_q (U := V20) (m := m) (P := 100) (j := 15) d20 rfl).trans ((z20.r 100 15 rfl).trans (z19.r 100 15 rfl)))]
    refine mw_go mu_g206 (k := 2) (f1 := (134, [(3, .inl (nI ((sl + cp) + dp))), (0, .inr (.inr (some 100))), (1, .inl (nI sl)), (2, .inl (nI dp))], [.inl (mu_i Q20 100 5), .inr (.inr (U.2.2.2.1 100 15)), .inr (.inr (some 100))], Q20)) (C := [mu_is Q20 (some 100) 5]) rfl (show mu_is Q20 (some 100) 5 from (u20.1.1.is rfl)) ?_
    rw [(show mu_i Q20 100 5 = (nI cp) from (ud_i (U := V20) (m := m) (P := 100) (j := 5) d20 rfl).trans ((z20.i 100 5 rfl).trans ((z19.i 100 5 rfl).trans hcp)))]
    refine mw_go mu_g206 (k := 2) (f1 := (136, [(3, .inl (nI ((sl + cp) + dp))), (0, .inr (.inr (some 100))), (1, .inl (nI sl)), (2, .inl (nI dp))], [.inl ((nI cp) + (2 : Int32)), .inr (.inr (U.2.2.2.1 100 15)), .inr (.inr (some 100))], Q20)) (C := []) rfl trivial ?_
    rw [(show ((nI cp) + (2 : Int32)) = (nI (cp + 2)) from (nI_add cp 2))]
    refine mw_cA (fun _ => rfl) trivial (fit_ok (d := d) (N := cp + 2) (u20.iA d20 rfl rfl (show V20.2.2.2.1 100 15 = (U.2.2.2.1 100 15) from ((z20.r 100 15 rfl).trans (z19.r 100 15 rfl)))) (by omega) (by rw [show mu_n Q20 (mu_p (U.2.2.2.1 100 15)) = (U.2.2.1 100 15).1 from (u20.nA d20 rfl rfl (show V20.2.2.2.1 100 15 = (U.2.2.2.1 100 15) from ((z20.r 100 15 rfl).trans (z19.r 100 15 rfl))) (show (V20.2.2.1 100 15).1 = (U.2.2.1 100 15).1 from ((z20.n 100 15 rfl).trans (z19.n 100 15 rfl))))]; omega) u20.1.1.z) (fun x21 E21 q21 => ?_)
    refine mw_go mu_g206 (k := 1) (f1 := (142, [(3, .inl (nI ((sl + cp) + dp))), (0, .inr (.inr (some 100))), (1, .inl (nI sl)), (2, .inl (nI dp))], [], (mu_sr E21 100 15 x21))) (C := [mu_is E21 (some 100) 5]) rfl (show mu_is E21 (some 100) 5 from fitA_is (u20.1.1.is rfl) q21) ?_
    obtain ⟨u21, r21, z21, fl21, fb21⟩ := u20.fitA (C := C) (P := 100) (J := 15) (N := cp + 2) (Fr := (⟨[], [], [(100, 15)], [(100, 15)], [], false⟩ : Uf)) d20 rfl rfl rfl ((ud_q (m := m) (P := 100) (j := 15) d20 rfl).trans (show V20.2.2.2.1 100 15 = (U.2.2.2.1 100 15) from ((z20.r 100 15 rfl).trans (z19.r 100 15 rfl)))) (by rw [(show (V20.2.2.1 100 15).1 = (U.2.2.1 100 15).1 from ((z20.n 100 15 rfl).trans (z19.n 100 15 rfl)))]; omega) (by omega) q21 rfl rfl
    generalize (mu_sr E21 100 15 x21) = Q21 at u21 r21 z21 fl21 fb21 ⊢
    have ht21 : ur m C H Q21 := ht20.trans r21
    obtain ⟨V21, d21⟩ : ∃ V, ud m Q21 = V := ⟨_, rfl⟩
    rw [d21] at z21 fl21 fb21
    rw [(show (V20.2.2.1 100 15).1 = (U.2.2.1 100 15).1 from ((z20.n 100 15 rfl).trans (z19.n 100 15 rfl)))] at fb21
    have qf21 : uq F206 U V21 := qf20.tr z21 rfl
    exact mw_of (fun _ => mu_ret rfl trivial ⟨Q21, rfl, u21, ht21, (by rw [d21]; exact qf21), W, (by rw [d21]; exact ⟨((z21.i 100 7 rfl).trans ((z20.i 100 7 rfl).trans (z19.i 100 7 rfl))), ((z21.i 100 17 rfl).trans ((z20.i 100 17 rfl).trans (z19.i 100 17 rfl))), hW1, hW2, by rw [(show (V21.2.2.1 100 8).1 = (U.2.2.1 100 8).1 from ((z21.n 100 8 rfl).trans ((z20.n 100 8 rfl).trans (z19.n 100 8 rfl))))]; omega, by rw [(show (V21.2.2.1 100 8).1 = (U.2.2.1 100 8).1 from ((z21.n 100 8 rfl).trans ((z20.n 100 8 rfl).trans (z19.n 100 8 rfl))))]; unfold clz at *; omega, ⟨by rw [(show (V21.2.2.1 100 12).1 = (V19.2.2.1 100 12).1 from ((z21.n 100 12 rfl).trans (z20.n 100 12 rfl)))]; omega, by rw [(show (V21.2.2.1 100 12).1 = (V19.2.2.1 100 12).1 from ((z21.n 100 12 rfl).trans (z20.n 100 12 rfl)))]; omega⟩, ⟨by rw [(show (V21.2.2.1 100 13).1 = (V20.2.2.1 100 13).1 from (z21.n 100 13 rfl))]; omega, by rw [(show (V21.2.2.1 100 13).1 = (V20.2.2.1 100 13).1 from (z21.n 100 13 rfl))]; omega⟩, by rw [(show (V21.2.2.1 100 15).1 = (V21.2.2.1 100 15).1 from rfl)]; omega, by rw [(show (V21.2.2.1 100 15).1 = (V21.2.2.1 100 15).1 from rfl)]; omega⟩)⟩)
end FitA
