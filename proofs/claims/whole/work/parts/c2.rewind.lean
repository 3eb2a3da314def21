/-! Machine.rewind, Machine.turn -/
section Rewind
variable {H : mu_H} {m d A W l k n P S0 at0 tot : Nat} {C : Nat → Nat} {U V V1 : Ud} {f sd wt : Nat → Nat} {mk mv w : Int32} {s : Ts}
theorem wgh_ok (hs : (s 22).1 = 28) (hk : k < 28) : (wgh s k w 22).1 = 28 ∧ (∀ r c, ¬ (r = k ∧ (c = 1 ∨ c = 3)) → (wgh s k w 22).2 r c = (s 22).2 r c) ∧ (wgh s k w 22).2 k 1 = w ∧ ((wgh s k w 22).2 k 3 = -1 ∨ ((wgh s k w 22).2 k 3 = (s 22).2 k 3 ∧ (s 22).2 k 1 = w)) ∧ ∀ j, j ≠ 22 → wgh s k w j = s j := by
  unfold wgh
  by_cases h : (s 22).2 k 1 = w
  · rw [if_pos h]
    exact ⟨hs, fun _ _ _ => rfl, h, Or.inr ⟨rfl, h⟩, fun _ _ => rfl⟩
  · rw [if_neg h]
    have n1 : (ax 22 s (nI k) 1 w 22).1 = 28 := by rw [ax_n]; exact hs
    have h1 : ∀ r c, ¬ (r = k ∧ c = 3) → (ax 22 (ax 22 s (nI k) 1 w) (nI k) 3 (-1) 22).2 r c = (ax 22 s (nI k) 1 w 22).2 r c := (ax22 (s := ax 22 s (nI k) 1 w) (x := -1) (by rw [n1]; exact hk) (by omega)).2.2
    have h2 : ∀ r c, ¬ (r = k ∧ c = 1) → (ax 22 s (nI k) 1 w 22).2 r c = (s 22).2 r c := fun r c hn => ax_c (fun _ e2 e3 => hn ⟨e2.trans (nI_clamp (by omega)), e3⟩)
    refine ⟨by rw [ax_n]; exact n1, fun r c hn => ?_, ?_, Or.inl (ax22 (s := ax 22 s (nI k) 1 w) (x := -1) (by rw [n1]; exact hk) (by omega)).2.1, fun j hj => by rw [ax_ne hj, ax_ne hj]⟩
    · rw [h1 r c (fun z => hn ⟨z.1, Or.inr z.2⟩), h2 r c (fun z => hn ⟨z.1, Or.inl z.2⟩)]
    · rw [h1 k 1 (fun z => absurd z.2 (by decide))]
      exact ax_hit (by rw [hs]; exact hk) (by decide) (by omega)
theorem wgs_ok (hs : (s 22).1 = 28) (hn : n ≤ 28) : (wgs mv f s n 22).1 = 28 ∧ (∀ r c, c ≠ 1 → c ≠ 3 → (wgs mv f s n 22).2 r c = (s 22).2 r c) ∧ (∀ k, k < 28 → 28 - n ≤ k → (wgs mv f s n 22).2 k 1 = nI (wqz mv f k) ∧ ((wgs mv f s n 22).2 k 3 = -1 ∨ ((wgs mv f s n 22).2 k 3 = (s 22).2 k 3 ∧ (s 22).2 k 1 = nI (wqz mv f k)))) ∧ (∀ k c, k < 28 - n → (wgs mv f s n 22).2 k c = (s 22).2 k c) ∧ ∀ j, j ≠ 22 → wgs mv f s n j = s j := by
  induction n with
  | zero => exact ⟨hs, fun _ _ _ _ => rfl, fun k h1 h2 => by omega, fun _ _ _ => rfl, fun _ _ => rfl⟩
  | succ n ih =>
    obtain ⟨i1, i2, i3, i4, i5⟩ := ih (by omega)
    obtain ⟨w1, w2, w3, w4, w5⟩ := wgh_ok (w := nI (wqz mv f (27 - n))) i1 (show 27 - n < 28 by omega)
    refine ⟨w1, fun r c h1 h3 => ?_, fun k hk hk2 => ?_, fun k c hk => ?_, fun j hj => (w5 j hj).trans (i5 j hj)⟩
    · exact (w2 r c (fun z => by rcases z.2 with y | y <;> omega)).trans (i2 r c h1 h3)
    · by_cases e : k = 27 - n
      · subst e
        refine ⟨w3, w4.imp id (fun z => ⟨z.1.trans (i4 _ _ (by omega)), (i4 _ _ (by omega)).symm.trans z.2⟩)⟩
      · obtain ⟨y1, y2⟩ := i3 k hk (by omega)
        refine ⟨(w2 k 1 (fun z => e z.1)).trans y1, ?_⟩
        have e3 : (wgs mv f s (n + 1) 22).2 k 3 = (wgs mv f s n 22).2 k 3 := w2 k 3 (fun z => e z.1)
        rw [e3]
        exact y2
    · exact (w2 k c (fun z => by omega)).trans (i4 k c (by omega))
theorem wqz_b (hf : ∀ k, 1 ≤ f k) (hk : k < 28) : wqz mv f k * f (k % 14) ≤ max (tqz mv f 28) 0 ∧ wqz mv f k ≤ tqz mv f 28 := by
  unfold wqz
  by_cases h : mb mv k = 0
  · rw [if_pos h, Nat.zero_mul]; exact ⟨Nat.zero_le _, Nat.zero_le _⟩
  · rw [if_neg h]
    have h1 := tqz_le (mv := mv) hf (show 27 - k + 1 ≤ 28 by omega)
    have h2 : tqz mv f (27 - k + 1) = tqz mv f (27 - k) * f (k % 14) := by
      show tqz mv f (27 - k) * (if mb mv (27 - (27 - k)) = 0 then 1 else f ((27 - (27 - k)) % 14)) = _
      rw [show 27 - (27 - k) = k by omega, if_neg h]
    have h3 := tqz_le (mv := mv) hf (show 27 - k ≤ 28 by omega)
    rw [h2] at h1
    exact ⟨by omega, h3⟩
/-- the sides have their new weights -/
theorem sds_new (h : sds U W P S0 f mk sd wt) (hf : ∀ k, 1 ≤ f k) (ht : tqz mv f 28 ≤ 268435456) (hwt : ∀ k, k < 28 → wt k < 2147483648) (hV : V.1 = wgs mv f U.1 28) (h8 : V.2.2.1 100 8 = U.2.2.1 100 8) (h98 : V.2.2.1 99 8 = U.2.2.1 99 8) : sds V W P S0 f mk sd (wqz mv f) := by
  obtain ⟨s1, s2, s3, s4⟩ := h
  obtain ⟨w1, w2, w3, w4, w5⟩ := wgs_ok (mv := mv) (f := f) (n := 28) s1 (Nat.le_refl _)
  unfold sds fck
  rw [hV, h8, h98]
  refine ⟨w1, fun k hk hb => ?_, fun k hk => (w3 k hk (by omega)).1, s4⟩
  obtain ⟨y1, y2, y3, y4, y5⟩ := s2 k hk hb
  refine ⟨y1, (w2 k 0 (by decide) (by decide)).trans y2, y3, fun q hq hq2 => ?_, by have := (wqz_b (mv := mv) hf hk).1; omega⟩
  have hwb := (wqz_b (mv := mv) hf hk).2
  rcases (w3 k hk (by omega)).2 with z | ⟨z1, z2⟩
  · rw [z] at hq; exact absurd hq.symm (nI_neg1 hq2)
  · rw [z1] at hq
    have e : wt k = wqz mv f k := (nI_eq (hwt k hk) (by omega)).mp ((s3 k hk).symm.trans z2)
    rw [← e]
    exact y4 q hq hq2
def F207 : Uf := ⟨[22], [(100, 18), (100, 21), (100, 19), (100, 20)], [(100, 8), (100, 12)], [], [], false⟩
theorem mc_rewind {T0 : Nat} {St : Ts} (h : um m H) (e : ud m H = U) (hS : spx m U P f) (hW : U.2.1 100 17 = nI W) (hW1 : 1 ≤ W) (hW2 : W ≤ 1024) (hA8 : A * W ≤ (U.2.2.1 100 8).1) (c8 : (U.2.2.1 100 8).1 ≤ 16777216) (hA12 : A ≤ (U.2.2.1 100 12).1) (c12 : (U.2.2.1 100 12).1 ≤ 16777216) (hmk : U.2.1 100 4 = mk) (hsd : sds U W P S0 f mk sd wt) (hSA : S0 ≤ A) (hT0 : T0 = tqz mv f 28) (hSt : St = wgs mv f U.1 28) (hf1 : ∀ k, 1 ≤ f k) (hmv : ∀ k, k < 28 → ¬ mb mv k = 0 → k % 14 < P) (htq : tqz mv f 28 ≤ 268435456) (hwt : ∀ k, k < 28 → wt k < 2147483648) :
    mu_TI (mu_D (d + 5)) 207 [.inr (.inr (some 100)), .inl mv] H (fun x H1 => x = nI ((T0 + W - 1) / W) ∧ um m H1 ∧ ur m C H H1 ∧ uq F207 U (ud m H1) ∧ (ud m H1).2.1 100 18 = nI (min W (T0 - 0)) ∧ (ud m H1).2.1 100 21 = 1 ∧ (ud m H1).2.1 100 19 = 0 ∧ (ud m H1).2.1 100 20 = nI T0 ∧ sdi (upI (upI (upT U St) 100 20 (nI T0)) 100 19 0) (ud m H1) W (min W (T0 - 0)) P S0 f mk sd (wqz mv f) 0 (fun q => q < 28)) := by
  have hS0 := hS
  obtain ⟨⟨s4, s10, s11, s12⟩, hk5, ⟨g8, g8b, g18, g18b⟩, ⟨gP, gpd, gsm⟩, hsp, hmo⟩ := hS0
  have ht1 := tqz_1 (mv := mv) (n := 28) hf1
  have htq0 := htq
  rw [← hT0] at ht1 htq0
  refine mu_meth (M := mu_m207) rfl rfl ?_
  refine mw_ht (mu_fn_of (show [0, 1].Nodup by decide)) ?_
  refine rw_loop (d := d + 2) (C := C) h e hS hf1 hmv htq (fun Q uq0 rq0 dq => ?_)
  rw [← hSt, ← hT0] at dq
  refine mw_go mu_g207 (k := 3) (f1 := (83, [(0, .inr (.inr (some 100))), (1, .inl mv)], [], (mu_si Q 100 19 (0 : Int32)))) (C := [mu_is Q (some 100) 5]) rfl (show mu_is Q (some 100) 5 from (uq0.1.1.is rfl)) ?_
  obtain ⟨u1, r1, d1⟩ : um m (mu_si Q 100 19 (0 : Int32)) ∧ ur m C Q (mu_si Q 100 19 (0 : Int32)) ∧ ud m (mu_si Q 100 19 (0 : Int32)) = (upI (upI (upT U St) 100 20 (nI T0)) 100 19 (0 : Int32)) := uq0.sI (C := C) dq rfl
  generalize (mu_si Q 100 19 (0 : Int32)) = Q1 at u1 r1 d1 ⊢
  have ht1 : ur m C H Q1 := rq0.trans r1
  refine mw_go mu_g207 (k := 1) (f1 := (84, [(0, .inr (.inr (some 100))), (1, .inl mv)], [.inr (.inr (some 100))], Q1)) (C := []) rfl trivial ?_
  have hsd2 : sds (upI (upI (upT U St) 100 20 (nI T0)) 100 19 (0 : Int32)) W P S0 f mk sd (wqz mv f) := sds_new hsd hf1 htq hwt hSt rfl rfl
  have hq0 : uq F207 U (upI (upI (upT U St) 100 20 (nI T0)) 100 19 (0 : Int32)) := (((uq.refl F207 U).T (fun q hq => by rw [hSt]; exact (wgs_ok (mv := mv) (f := f) hsd.1 (Nat.le_refl 28)).2.2.2.2 q (in1_ne (j := 22) rfl hq))).I rfl).I rfl
  refine mw_cV (fun _ => rfl) (show mu_is Q1 (some 100) 5 from (u1.1.1.is rfl)) (mc_fillAll (d := d) (C := C) (at0 := 0) (tot := T0) (l := min W (T0 - 0)) (A := A) u1 d1 (spx_keep hS rfl rfl rfl rfl rfl rfl rfl rfl rfl rfl rfl) (show (upI (upI (upT U St) 100 20 (nI T0)) 100 19 (0 : Int32)).2.1 100 17 = nI W from hW) hW1 hW2 (by rw [(show ((upI (upI (upT U St) 100 20 (nI T0)) 100 19 (0 : Int32)).2.2.1 100 8).1 = (U.2.2.1 100 8).1 from rfl)]; exact hA8) (by rw [(show ((upI (upI (upT U St) 100 20 (nI T0)) 100 19 (0 : Int32)).2.2.1 100 8).1 = (U.2.2.1 100 8).1 from rfl)]; exact c8) (by rw [(show ((upI (upI (upT U St) 100 20 (nI T0)) 100 19 (0 : Int32)).2.2.1 100 12).1 = (U.2.2.1 100 12).1 from rfl)]; exact hA12) (by rw [(show ((upI (upI (upT U St) 100 20 (nI T0)) 100 19 (0 : Int32)).2.2.1 100 12).1 = (U.2.2.1 100 12).1 from rfl)]; exact c12) (show (upI (upI (upT U St) 100 20 (nI T0)) 100 19 (0 : Int32)).2.1 100 4 = mk from hmk) hsd2 hSA (show (upI (upI (upT U St) 100 20 (nI T0)) 100 19 (0 : Int32)).2.1 100 20 = nI T0 from rfl) (show (upI (upI (upT U St) 100 20 (nI T0)) 100 19 (0 : Int32)).2.1 100 19 = nI 0 from rfl) (by omega) (by omega) rfl) (fun Q2 q2 => ?_)
  obtain ⟨u2, r2, z2, l18, l21, hsi⟩ := q2
  have ht2 : ur m C H Q2 := ht1.trans r2
  obtain ⟨V2, d2⟩ : ∃ V, ud m Q2 = V := ⟨_, rfl⟩
  rw [d2] at z2 l18 l21 hsi
  refine mw_go mu_g207 (k := 2) (f1 := (91, [(0, .inr (.inr (some 100))), (1, .inl mv)], [.inl (mu_i Q2 100 20)], Q2)) (C := [mu_is Q2 (some 100) 5]) rfl (show mu_is Q2 (some 100) 5 from (u2.1.1.is rfl)) ?_
  rw [(show mu_i Q2 100 20 = (nI T0) from (ud_i (U := V2) (m := m) (P := 100) (j := 20) d2 rfl).trans (z2.i 100 20 rfl))]
  refine mw_go mu_g207 (k := 2) (f1 := (95, [(0, .inr (.inr (some 100))), (1, .inl mv)], [.inl (mu_i Q2 100 17), .inl (nI T0)], Q2)) (C := [mu_is Q2 (some 100) 5]) rfl (show mu_is Q2 (some 100) 5 from (u2.1.1.is rfl)) ?_
  rw [(show mu_i Q2 100 17 = (nI W) from (ud_i (U := V2) (m := m) (P := 100) (j := 17) d2 rfl).trans ((z2.i 100 17 rfl).trans hW))]
  refine mw_go mu_g207 (k := 1) (f1 := (96, [(0, .inr (.inr (some 100))), (1, .inl mv)], [.inl ((nI T0) + (nI W))], Q2)) (C := []) rfl trivial ?_
  rw [(show ((nI T0) + (nI W)) = (nI (T0 + W)) from (nI_add T0 W))]
  refine mw_go mu_g207 (k := 2) (f1 := (98, [(0, .inr (.inr (some 100))), (1, .inl mv)], [.inl ((nI (T0 + W)) - (1 : Int32))], Q2)) (C := []) rfl trivial ?_
  rw [(show ((nI (T0 + W)) - (1 : Int32)) = (nI ((T0 + W) - 1)) from (nI_sub (a := T0 + W) (b := 1) (by omega)))]
  refine mw_go mu_g207 (k := 2) (f1 := (102, [(0, .inr (.inr (some 100))), (1, .inl mv)], [.inl (mu_i Q2 100 17), .inl (nI ((T0 + W) - 1))], Q2)) (C := [mu_is Q2 (some 100) 5]) rfl (show mu_is Q2 (some 100) 5 from (u2.1.1.is rfl)) ?_
  rw [(show mu_i Q2 100 17 = (nI W) from (ud_i (U := V2) (m := m) (P := 100) (j := 17) d2 rfl).trans ((z2.i 100 17 rfl).trans hW))]
  refine mw_go mu_g207 (k := 1) (f1 := (103, [(0, .inr (.inr (some 100))), (1, .inl mv)], [.inl ((nI ((T0 + W) - 1)) / (nI W))], Q2)) (C := [¬ (nI W) = 0]) rfl (show ¬ (nI W) = 0 from (nI_ne0 (by omega) (by omega))) ?_
  rw [(show ((nI ((T0 + W) - 1)) / (nI W)) = (nI (((T0 + W) - 1) / W)) from (nI_div (a := (T0 + W) - 1) (b := W) (by omega) (by omega)))]
  exact mw_of (fun _ => mu_ret rfl trivial ⟨_, Q2, rfl, rfl, u2, ht2, (by rw [d2]; exact (hq0.tr z2 rfl)), (by rw [d2]; exact ⟨l18, l21, (z2.i 100 19 rfl), (z2.i 100 20 rfl), hsi⟩)⟩)
end Rewind
