/-! Space.begin -/
/-- the places, their sizes, strides and VALUES -/
def SG (m : Nat) (U U1 : Ud) (P : Nat) (f : Nat → Nat) : Prop :=
  ((∀ j, j ≠ 15 → j ≠ 21 → U1.1 j = U.1 j) ∧ (U1.1 15).1 = (U.1 15).1 ∧ (∀ i c, c ≠ 2 → (U1.1 15).2 i c = (U.1 15).2 i c) ∧ (∀ w, w < (U.1 15).1 → (U1.1 15).2 w 2 = -1 ∨ ∃ k, k < P ∧ (U1.1 15).2 w 2 = nI k) ∧ (U1.1 21).1 = 0) ∧
  szs f P (sm (bz U.1) 0 (U.1 15).1) ∧
  (U1.2.1 99 4 = nI P ∧ U1.2.1 99 10 = nI (sm f 0 P) ∧ U1.2.1 99 11 = nI (pd f 0 P) ∧ U1.2.1 99 12 = (nI (pd f 0 P) + 63) >>> (6 &&& 31) ∧ U1.2.1 99 13 = 0) ∧
  (∀ k, k < P → (U1.2.2.1 99 5).2 k = nI (f k) ∧ (U1.2.2.1 99 7).2 k = nI (sm f 0 k) ∧ (U1.2.2.1 99 6).2 k = nI (pd f (k + 1) (P - 1 - k))) ∧
  (sm f 0 P + 4 ≤ (U1.2.2.1 99 8).1 ∧ lwh 1 (U1.2.2.1 99 8).1 ∧ pd f 0 P + 4 ≤ (U1.2.2.1 99 18).1 ∧ lwh 1 (U1.2.2.1 99 18).1) ∧
  (U1.2.2.2.1 99 0 = some m ∧ U1.2.2.2.1 100 0 = some 99 ∧ (∀ p i, ¬ (p = 99 ∧ (i = 0 ∨ i = 8 ∨ i = 18)) → ¬ (p = 100 ∧ i = 0) → U1.2.2.2.1 p i = U.2.2.2.1 p i)) ∧
  ((∀ p i, p ≠ 99 → U1.2.2.1 p i = U.2.2.1 p i) ∧ (∀ p i, p ≠ 99 → U1.2.1 p i = U.2.1 p i) ∧ U1.2.2.2.2 = U.2.2.2.2)
section Begin
variable {H H1 H2 : mu_H} {m d : Nat} {C : Nat → Nat} {U : Ud}
theorem sp_begin (h : um m H) (e : ud m H = U) (hsum : sm (bz U.1) 0 (U.1 15).1 ≤ 14) (h15 : (U.1 15).1 ≤ 67108864) (hcol : ∀ w, w < (U.1 15).1 → (U.1 15).2 w 2 = -1) (h8 : lwh 1 (U.2.2.1 99 8).1) (h18 : lwh 1 (U.2.2.1 99 18).1) : mu_TV (mu_D (d + 5)) 268 [.inr (.inr (some 99)), .inr (.inr (some m))] H (fun H1 => um m H1 ∧ ur m C H H1 ∧ ∃ P f, SG m U (ud m H1) P f) := by
  have hm41 : m < 169 := by rcases h.2 with z | z <;> omega
  refine mu_meth (M := mu_m268) rfl rfl ?_
  refine mw_ht (mu_fn_of (show [0, 1].Nodup by decide)) ?_
  refine mw_go mu_g268 (k := 3) (f1 := (5, [(0, .inr (.inr (some 99))), (1, .inr (.inr (some m)))], [], mu_sr H 99 0 (some m))) (C := [mu_is H (some 99) 13]) rfl (show mu_is H (some 99) 13 from (h.1.1.is rfl)) ?_
  obtain ⟨u1, r1, d1⟩ := h.putR (C := C) (P := 99) (k := 0) (v := some m) rfl rfl rfl (by decide) (fun q hq => by cases hq; exact Or.inl hm41)
  rw [e] at d1
  generalize mu_sr H 99 0 (some m) = Q1 at u1 r1 d1 ⊢
  have D1 : ud m Q1 = (upR U 99 0 (some m)) := d1
  refine mw_go mu_g268 (k := 3) (f1 := (10, [(0, .inr (.inr (some 99))), (1, .inr (.inr (some m)))], [], mu_si Q1 99 13 (0 : Int32))) (C := [mu_is Q1 (some 99) 13, (0 : Int32) = 0 ∨ (0 : Int32) = 1]) rfl (show (mu_is Q1 (some 99) 13) ∧ ((0 : Int32) = 0 ∨ (0 : Int32) = 1) from ⟨(u1.1.1.is rfl), Or.inl rfl⟩) ?_
  obtain ⟨u2, r2, d2⟩ := u1.putI (C := C) (P := 99) (k := 13) (v := (0 : Int32)) rfl
  rw [D1] at d2
  generalize mu_si Q1 99 13 (0 : Int32) = Q2 at u2 r2 d2 ⊢
  have D2 : ud m Q2 = (upI (upR U 99 0 (some m)) 99 13 (0 : Int32)) := d2
  refine mw_go mu_g268 (k := 3) (f1 := (15, [(0, .inr (.inr (some 99))), (1, .inr (.inr (some m)))], [], mu_si Q2 99 4 (0 : Int32))) (C := [mu_is Q2 (some 99) 13]) rfl (show mu_is Q2 (some 99) 13 from (u2.1.1.is rfl)) ?_
  obtain ⟨u3, r3, d3⟩ := u2.putI (C := C) (P := 99) (k := 4) (v := (0 : Int32)) rfl
  rw [D2] at d3
  generalize mu_si Q2 99 4 (0 : Int32) = Q3 at u3 r3 d3 ⊢
  have D3 : ud m Q3 = (upI (upI (upR U 99 0 (some m)) 99 13 (0 : Int32)) 99 4 (0 : Int32)) := d3
  refine mw_go mu_g268 (k := 3) (f1 := (20, [(0, .inr (.inr (some 99))), (1, .inr (.inr (some m)))], [], mu_si Q3 99 10 (0 : Int32))) (C := [mu_is Q3 (some 99) 13]) rfl (show mu_is Q3 (some 99) 13 from (u3.1.1.is rfl)) ?_
  obtain ⟨u4, r4, d4⟩ := u3.putI (C := C) (P := 99) (k := 10) (v := (0 : Int32)) rfl
  rw [D3] at d4
  generalize mu_si Q3 99 10 (0 : Int32) = Q4 at u4 r4 d4 ⊢
  have D4 : ud m Q4 = (upI (upI (upI (upR U 99 0 (some m)) 99 13 (0 : Int32)) 99 4 (0 : Int32)) 99 10 (0 : Int32)) := d4
  refine mw_go mu_g268 (k := 3) (f1 := (25, [(0, .inr (.inr (some 99))), (1, .inr (.inr (some m)))], [], mu_si Q4 99 9 (0 : Int32))) (C := [mu_is Q4 (some 99) 13]) rfl (show mu_is Q4 (some 99) 13 from (u4.1.1.is rfl)) ?_
  obtain ⟨u5, r5, d5⟩ := u4.putI (C := C) (P := 99) (k := 9) (v := (0 : Int32)) rfl
  rw [D4] at d5
  generalize mu_si Q4 99 9 (0 : Int32) = Q5 at u5 r5 d5 ⊢
  have D5 : ud m Q5 = (upI (upI (upI (upI (upR U 99 0 (some m)) 99 13 (0 : Int32)) 99 4 (0 : Int32)) 99 10 (0 : Int32)) 99 9 (0 : Int32)) := d5
  refine mw_go mu_g268 (k := 2) (f1 := (27, [(2, .inl (nI 0)), (0, .inr (.inr (some 99))), (1, .inr (.inr (some m)))], [], Q5)) (C := []) rfl trivial ?_
  have R5 : ur m C H Q5 := (((r1.trans r2).trans r3).trans r4).trans r5
  refine sp_loop1 (C := C) (d := d + 1) (U := (upI (upI (upI (upI (upR U 99 0 (some m)) 99 13 (0 : Int32)) 99 4 (0 : Int32)) 99 10 (0 : Int32)) 99 9 (0 : Int32))) u5 D5 rfl hsum h15 ⟨⟨fun _ _ => rfl, rfl, fun _ _ _ => rfl, fun w hw => Or.inl (hcol w hw)⟩, ⟨rfl, rfl, fun k hk => absurd hk (Nat.not_lt_zero k)⟩, szs.zero, rfl, fun _ _ _ => rfl, fun _ _ _ => rfl, rfl, rfl, rfl⟩ (fun Q6 P f u6 r6 hB => ?_)
  obtain ⟨V6, D6⟩ : ∃ V, ud m Q6 = V := ⟨_, rfl⟩
  rw [D6] at hB
  obtain ⟨⟨t1, t2, t3, t4⟩, ⟨p1, p2, p3⟩, hs, ⟨k1, k2, k3, k4, k5, k6⟩⟩ := hB
  obtain ⟨s1, s2, s3⟩ := hs.sum hsum
  have l8 : (V6.2.2.1 99 8).1 = (U.2.2.1 99 8).1 := by rw [k2 99 8 (by decide)]; rfl
  have l18 : (V6.2.2.1 99 18).1 = (U.2.2.1 99 18).1 := by rw [k2 99 18 (by decide)]; rfl
  have hNT : (Prod.fst (upI (upI (upI (upI (upR U 99 0 (some m)) 99 13 (0 : Int32)) 99 4 (0 : Int32)) 99 10 (0 : Int32)) 99 9 (0 : Int32)) 15).1 = (U.1 15).1 := rfl
  show mu_W _ _ (179, [(2, .inl (nI (U.1 15).1)), (0, .inr (.inr (some 99))), (1, .inr (.inr (some m)))], [], Q6) _
  refine mw_go mu_g268 (k := 5) (f1 := (188, [(2, .inl (nI (U.1 15).1)), (0, .inr (.inr (some 99))), (1, .inr (.inr (some m)))], [.inl (mu_i Q6 99 10), .inr (.inr (mu_r Q6 99 8)), .inr (.inr (some 99))], Q6)) (C := [mu_is Q6 (some 99) 13, mu_is Q6 (some 99) 13]) rfl (show (mu_is Q6 (some 99) 13) ∧ (mu_is Q6 (some 99) 13) from ⟨(u6.1.1.is rfl), (u6.1.1.is rfl)⟩) ?_
  rw [show mu_i Q6 99 10 = nI (sm f 0 P) from (ud_i (m := m) (P := 99) (j := 10) D6 rfl).trans p2]
  refine mw_go mu_g268 (k := 1) (f1 := (189, [(2, .inl (nI (U.1 15).1)), (0, .inr (.inr (some 99))), (1, .inr (.inr (some m)))], [.inl (nI 1), .inl (nI (sm f 0 P)), .inr (.inr (mu_r Q6 99 8)), .inr (.inr (some 99))], Q6)) (C := []) rfl trivial ?_
  have w8 : lwh 1 (mu_n Q6 (mu_p (mu_r Q6 99 8))) := by rw [ud_n (m := m) (P := 99) (J := 8) D6 rfl rfl, l8]; exact h8
  refine mw_cA (fun _ => rfl) trivial (fitStates_ok (d := d + 2) (n := sm f 0 P) (e := 1) (u6.1.1.o (p := 99) (j := 8) rfl) s1 (Or.inl rfl) u6.1.1.z w8) (fun x7 F7 q7 => ?_)
  refine mw_go mu_g268 (k := 1) (f1 := (195, [(2, .inl (nI (U.1 15).1)), (0, .inr (.inr (some 99))), (1, .inr (.inr (some m)))], [], mu_sr F7 99 8 x7)) (C := [mu_is F7 (some 99) 13]) rfl (show mu_is F7 (some 99) 13 from fit_is (u6.1.1.is rfl) q7) ?_
  obtain ⟨u7, r7, L7, g7, z7, D7, e7, w7⟩ := u6.fitS (C := C) (J := 8) (n := sm f 0 P) D6 rfl rfl q7 (by rw [l8]; exact h8)
  generalize mu_sr F7 99 8 x7 = Q7 at u7 r7 D7 ⊢
  refine mw_go mu_g268 (k := 2) (f1 := (197, [(2, .inl (nI 0)), (0, .inr (.inr (some 99))), (1, .inr (.inr (some m)))], [], Q7)) (C := []) rfl trivial ?_
  have w7b : L7 ≤ 16777216 := by unfold lwh at w7; omega
  refine sp_loop2 (C := C) (d := d) (P := P) (f := f) (U := (V6.1, V6.2.1, f2 V6.2.2.1 99 8 (L7, g7), f2 V6.2.2.2.1 99 8 z7, V6.2.2.2.2)) u7 D7 (by show V6.2.2.2.1 99 0 = some m; rw [k1]; rfl) (by show (V6.1 15).1 ≤ 67108864; rw [t2]; exact h15) (fun w hw => t4 w (by rw [← t2]; exact hw)) s3 p3 (by show sm f 0 P ≤ L7; omega) w7b (fun Q8 u8 r8 hB2 => ?_)
  obtain ⟨g8, D8⟩ := hB2
  have D8 : ud m Q8 = (V6.1, V6.2.1, f2 (f2 V6.2.2.1 99 8 (L7, g7)) 99 8 (L7, g8), f2 V6.2.2.2.1 99 8 z7, V6.2.2.2.2) := D8
  rw [f2_two] at D8
  show mu_W _ _ (245, [(2, .inl (nI (V6.1 15).1)), (0, .inr (.inr (some 99))), (1, .inr (.inr (some m)))], [], Q8) _
  refine mw_go mu_g268 (k := 3) (f1 := (250, [(2, .inl (nI (V6.1 15).1)), (0, .inr (.inr (some 99))), (1, .inr (.inr (some m)))], [], mu_si Q8 99 11 (1 : Int32))) (C := [mu_is Q8 (some 99) 13]) rfl (show mu_is Q8 (some 99) 13 from (u8.1.1.is rfl)) ?_
  obtain ⟨u9, r9, d9⟩ := u8.putI (C := C) (P := 99) (k := 11) (v := (1 : Int32)) rfl
  rw [D8] at d9
  generalize mu_si Q8 99 11 (1 : Int32) = Q9 at u9 r9 d9 ⊢
  have D9 : ud m Q9 = (upI (V6.1, V6.2.1, f2 V6.2.2.1 99 8 (L7, g8), f2 V6.2.2.2.1 99 8 z7, V6.2.2.2.2) 99 11 (1 : Int32)) := d9
  refine mw_go mu_g268 (k := 2) (f1 := (254, [(2, .inl (nI (V6.1 15).1)), (0, .inr (.inr (some 99))), (1, .inr (.inr (some m)))], [.inl (mu_i Q9 99 4)], Q9)) (C := [mu_is Q9 (some 99) 13]) rfl (show mu_is Q9 (some 99) 13 from (u9.1.1.is rfl)) ?_
  rw [show mu_i Q9 99 4 = nI P from (ud_i (m := m) (P := 99) (j := 4) D9 rfl).trans p1]
  refine mw_go mu_g268 (k := 3) (f1 := (257, [(2, .inl (nI P - 1)), (0, .inr (.inr (some 99))), (1, .inr (.inr (some m)))], [], Q9)) (C := []) rfl trivial ?_
  refine sp_loop3 (C := C) (d := d + 1) (P := P) (f := f) (U := (upI (V6.1, V6.2.1, f2 V6.2.2.1 99 8 (L7, g8), f2 V6.2.2.2.1 99 8 z7, V6.2.2.2.2) 99 11 (1 : Int32))) u9 D9 s3 (fun k hk => (p3 k hk).1) rfl (fun Q10 u10 r10 hB3 => ?_)
  obtain ⟨V10, D10⟩ : ∃ V, ud m Q10 = V := ⟨_, rfl⟩
  rw [D10] at hB3
  obtain ⟨b1, b2, b3, b4, b5, b6, b7⟩ := hB3
  rw [Nat.sub_zero] at b2
  refine mw_go mu_g268 (k := 3) (f1 := (297, [(2, .inl (nI 0 - 1)), (0, .inr (.inr (some 99))), (1, .inr (.inr (some m)))], [.inl (mu_i Q10 99 11), .inr (.inr (some 99))], Q10)) (C := [mu_is Q10 (some 99) 13]) rfl (show mu_is Q10 (some 99) 13 from (u10.1.1.is rfl)) ?_
  rw [show mu_i Q10 99 11 = nI (pd f 0 P) from (ud_i (m := m) (P := 99) (j := 11) D10 rfl).trans b2]
  refine mw_go mu_g268 (k := 5) (f1 := (306, [(2, .inl (nI 0 - 1)), (0, .inr (.inr (some 99))), (1, .inr (.inr (some m)))], [], mu_si Q10 99 12 ((nI (pd f 0 P) + 63) >>> (6 &&& 31)))) (C := [mu_is Q10 (some 99) 13]) rfl (show mu_is Q10 (some 99) 13 from (u10.1.1.is rfl)) ?_
  obtain ⟨wd, hwd⟩ : ∃ wd, wd = ((nI (pd f 0 P) + 63) >>> (6 &&& 31)) := ⟨_, rfl⟩
  rw [← hwd]
  obtain ⟨u11, r11, d11⟩ := u10.putI (C := C) (P := 99) (k := 12) (v := wd) rfl
  rw [D10] at d11
  generalize mu_si Q10 99 12 wd = Q11 at u11 r11 d11 ⊢
  have D11 : ud m Q11 = (upI V10 99 12 wd) := d11
  refine mw_go mu_g268 (k := 5) (f1 := (315, [(2, .inl (nI 0 - 1)), (0, .inr (.inr (some 99))), (1, .inr (.inr (some m)))], [.inl (mu_i Q11 99 11), .inr (.inr (mu_r Q11 99 18)), .inr (.inr (some 99))], Q11)) (C := [mu_is Q11 (some 99) 13, mu_is Q11 (some 99) 13]) rfl (show (mu_is Q11 (some 99) 13) ∧ (mu_is Q11 (some 99) 13) from ⟨(u11.1.1.is rfl), (u11.1.1.is rfl)⟩) ?_
  rw [show mu_i Q11 99 11 = nI (pd f 0 P) from (ud_i (m := m) (P := 99) (j := 11) D11 rfl).trans b2]
  refine mw_go mu_g268 (k := 1) (f1 := (316, [(2, .inl (nI 0 - 1)), (0, .inr (.inr (some 99))), (1, .inr (.inr (some m)))], [.inl (nI 1), .inl (nI (pd f 0 P)), .inr (.inr (mu_r Q11 99 18)), .inr (.inr (some 99))], Q11)) (C := []) rfl trivial ?_
  have m18 : (V10.2.2.1 99 18).1 = (U.2.2.1 99 18).1 := by rw [b5 99 18 (by decide)]; exact l18
  have w18 : lwh 1 (mu_n Q11 (mu_p (mu_r Q11 99 18))) := by rw [ud_n (m := m) (P := 99) (J := 18) D11 rfl rfl]; show lwh 1 (V10.2.2.1 99 18).1; rw [m18]; exact h18
  refine mw_cA (fun _ => rfl) trivial (fitStates_ok (d := d + 2) (n := pd f 0 P) (e := 1) (u11.1.1.o (p := 99) (j := 18) rfl) s2 (Or.inl rfl) u11.1.1.z w18) (fun x12 F12 q12 => ?_)
  refine mw_go mu_g268 (k := 1) (f1 := (322, [(2, .inl (nI 0 - 1)), (0, .inr (.inr (some 99))), (1, .inr (.inr (some m)))], [], mu_sr F12 99 18 x12)) (C := [mu_is F12 (some 99) 13]) rfl (show mu_is F12 (some 99) 13 from fit_is (u11.1.1.is rfl) q12) ?_
  obtain ⟨u12, r12, L12, g12, z12, D12, e12, w12⟩ := u11.fitS (C := C) (J := 18) (n := pd f 0 P) D11 rfl rfl q12 (by show lwh 1 (V10.2.2.1 99 18).1; rw [m18]; exact h18)
  generalize mu_sr F12 99 18 x12 = Q12 at u12 r12 D12 ⊢
  refine mw_go mu_g268 (k := 2) (f1 := (326, [(2, .inl (nI 0 - 1)), (0, .inr (.inr (some 99))), (1, .inr (.inr (some m)))], [.inr (.inr (mu_r Q12 99 1))], Q12)) (C := [mu_is Q12 (some 99) 13]) rfl (show mu_is Q12 (some 99) 13 from (u12.1.1.is rfl)) ?_
  rw [u12.1.1.r (p := 99) (j := 1) (q := 100) rfl]
  refine mw_go mu_g268 (k := 1) (f1 := (327, [(2, .inl (nI 0 - 1)), (0, .inr (.inr (some 99))), (1, .inr (.inr (some m)))], [.inr (.inr (some 99)), .inr (.inr (some 100))], Q12)) (C := []) rfl trivial ?_
  refine mw_cV (fun _ => rfl) (show mu_is Q12 (some 100) 5 from u12.1.1.is rfl) (mc_begin (C := C) (d := d + 2) u12 D12) (fun Q13 q13 => ?_)
  obtain ⟨u13, r13, D13⟩ := q13
  refine mw_of (fun _ => mu_ret rfl trivial ⟨Q13, rfl, u13, ((((((R5.trans r6).trans r7).trans r8).trans r9).trans r10).trans r11).trans (r12.trans r13), P, f, ?_⟩)
  rw [D13]
  have v1 : V10.1 = V6.1 := b1
  have aa : ∀ p i, ¬ (p = 99 ∧ i = 6) → V10.2.2.1 p i = f2 V6.2.2.1 99 8 (L7, g8) p i := b5
  have ii : ∀ p i, ¬ (p = 99 ∧ i = 11) → V10.2.1 p i = V6.2.1 p i := fun p i hp => (b6 p i hp).trans (if_neg hp)
  refine ⟨⟨fun j h1 h2 => ?_, ?_, fun i c hc => ?_, fun w hw => ?_, ?_⟩, hs, ⟨?_, ?_, ?_, ?_, ?_⟩, fun k hk => ⟨?_, ?_, ?_⟩, ⟨?_, ?_, e12, w12⟩, ⟨?_, rfl, fun p i hp hp2 => ?_⟩, ⟨fun p i hp => ?_, fun p i hp => ?_, ?_⟩⟩
  · show ac 21 V10.1 0 j = U.1 j; rw [show ac 21 V10.1 0 j = V10.1 j from fu_ne _ _ h2, v1]; exact t1 j h1
  · show (ac 21 V10.1 0 15).1 = _; rw [show ac 21 V10.1 0 15 = V10.1 15 from fu_ne _ _ (by decide), v1]; exact t2
  · show (ac 21 V10.1 0 15).2 i c = _; rw [show ac 21 V10.1 0 15 = V10.1 15 from fu_ne _ _ (by decide), v1]; exact t3 i c hc
  · show (ac 21 V10.1 0 15).2 w 2 = -1 ∨ ∃ k, k < P ∧ (ac 21 V10.1 0 15).2 w 2 = nI k; rw [show ac 21 V10.1 0 15 = V10.1 15 from fu_ne _ _ (by decide), v1]; exact t4 w hw
  · show (ac 21 V10.1 0 21).1 = 0; unfold ac; rw [fu_at]; rfl
  · show V10.2.1 99 4 = nI P; rw [ii 99 4 (by decide)]; exact p1
  · show V10.2.1 99 10 = _; rw [ii 99 10 (by decide)]; exact p2
  · exact b2
  · exact hwd
  · show V10.2.1 99 13 = 0; rw [ii 99 13 (by decide), k3 99 13 (by decide)]; rfl
  · show (V10.2.2.1 99 5).2 k = _; rw [aa 99 5 (by decide)]; exact (p3 k hk).1
  · show (V10.2.2.1 99 7).2 k = _; rw [aa 99 7 (by decide)]; exact (p3 k hk).2
  · exact b3 k (Nat.zero_le _) hk
  · show sm f 0 P + 4 ≤ (V10.2.2.1 99 8).1; rw [aa 99 8 (by decide)]; exact e7
  · show lwh 1 (V10.2.2.1 99 8).1; rw [aa 99 8 (by decide)]; exact w7
  · show V10.2.2.2.1 99 0 = some m; rw [b4]; show V6.2.2.2.1 99 0 = some m; rw [k1]; rfl
  · show f2 (f2 V10.2.2.2.1 99 18 z12) 100 0 (some 99) p i = _; unfold f2; rw [if_neg hp2, if_neg (fun z => hp ⟨z.1, Or.inr (Or.inr z.2)⟩), b4]; show f2 V6.2.2.2.1 99 8 z7 p i = _; unfold f2; rw [if_neg (fun z => hp ⟨z.1, Or.inr (Or.inl z.2)⟩), k1]; exact if_neg (fun z => hp ⟨z.1, Or.inl z.2⟩)
  · show f2 V10.2.2.1 99 18 (L12, g12) p i = _; unfold f2; rw [if_neg (fun z => hp z.1), aa p i (fun z => hp z.1)]; unfold f2; rw [if_neg (fun z => hp z.1)]; exact k2 p i (fun z => hp z.1)
  · show f2 V10.2.1 99 12 wd p i = _; unfold f2; rw [if_neg (fun z => hp z.1), ii p i (fun z => hp z.1), k3 p i (fun z => hp z.1)]; show f2 (f2 (f2 (f2 U.2.1 99 13 0) 99 4 0) 99 10 0) 99 9 0 p i = _; unfold f2; rw [if_neg (fun z => hp z.1), if_neg (fun z => hp z.1), if_neg (fun z => hp z.1), if_neg (fun z => hp z.1)]
  · show V10.2.2.2.2 = U.2.2.2.2; rw [b4]; exact k4
end Begin
