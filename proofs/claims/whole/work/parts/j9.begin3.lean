/-! SPACE.begin once more: places and worths told -/
/-- what begin leaves: places, sizes, first of the worths, worths, ranges -/
def SGP (U V : Ud) (sz vr : Nat → Nat) (n : Nat) : Prop := ((V.1 15).1 = n ∧ (∀ i c, c ≠ 2 → (V.1 15).2 i c = (U.1 15).2 i c) ∧ ∀ w, w < n → (V.1 15).2 w 2 = if 1 < sz w then nI (pcn sz w) else -1) ∧ (V.2.1 99 4 = nI (pcn sz n) ∧ ∀ k, k < pcn sz n → (V.2.2.1 99 5).2 k = nI (pfz sz n k) ∧ (V.2.2.1 99 7).2 k = nI (sm (pfz sz n) 0 k)) ∧ (∀ k, k < 32 → ¬ mb (V.2.1 99 9) k = 0 → ∃ w, w < n ∧ 1 < sz w ∧ pcn sz w = k ∧ ¬ (U.1 3).2 (vr w) 1 = 2) ∧ ∀ w, w < n → 1 < sz w → ∀ q, q < sz w → (V.2.2.1 99 8).2 (sm (pfz sz n) 0 (pcn sz w) + q) = wor U.1 (vr w) q
section Begin3
variable {H : mu_H} {U V : Ud} {m d v k q n a N : Nat} {C : Nat → Nat} {sz vr : Nat → Nat}
theorem sm_step2 (f : Nat → Nat) {a b : Nat} (h : a < b) : sm f 0 a + f a ≤ sm f 0 b := by
  obtain ⟨c, rfl⟩ : ∃ c, b = a + 1 + c := ⟨b - (a + 1), by omega⟩
  have := sm_le_add (f := f) (a := 0) (a + 1) c
  have e : sm f 0 (a + 1) = sm f 0 a + f (0 + a) := rfl
  rw [Nat.zero_add] at e
  omega
def F268a : Uf := ⟨[15], [(99, 4), (99, 9), (99, 10)], [(99, 5), (99, 7)], [], [], false⟩

theorem sp_loopA {Φ : mu_R → Prop} (h : um m H) (e : ud m H = U) (hmo : U.2.2.2.1 99 0 = some m) (hn : (U.1 15).1 = n) (hnb : n ≤ 67108864) (hsz : ∀ w, w < n → (U.1 15).2 w 1 = nI (sz w) ∧ sz w ≤ 16384) (hvr : ∀ w, w < n → (U.1 15).2 w 0 = nI (vr w) ∧ vr w < 2147483648) (hcol : ∀ w, w < n → (U.1 15).2 w 2 = -1) (hP14 : pcn sz n ≤ 14) (hsum : sm (pfz sz n) 0 (pcn sz n) ≤ 16384) (z4 : U.2.1 99 4 = 0) (z9 : U.2.1 99 9 = 0) (z10 : U.2.1 99 10 = 0) (hΦ : ∀ H1, um m H1 → ur m C H H1 → uq F268a U (ud m H1) → ((ud m H1).1 15).1 = n → (∀ i c, c ≠ 2 → ((ud m H1).1 15).2 i c = (U.1 15).2 i c) → (∀ w, w < n → ((ud m H1).1 15).2 w 2 = if 1 < sz w then nI (pcn sz w) else -1) → (ud m H1).2.1 99 4 = nI (pcn sz n) → (ud m H1).2.1 99 10 = nI (sm (pfz sz n) 0 (pcn sz n)) → (∀ k, k < pcn sz n → ((ud m H1).2.2.1 99 5).2 k = nI (pfz sz n k) ∧ ((ud m H1).2.2.1 99 7).2 k = nI (sm (pfz sz n) 0 k)) → (∀ k, k < 32 → ¬ mb ((ud m H1).2.1 99 9) k = 0 → ∃ w, w < n ∧ 1 < sz w ∧ pcn sz w = k ∧ ¬ (U.1 3).2 (vr w) 1 = 2) → mu_W (mu_D (d + 4)) mu_m268 (179, [(2, .inl (nI n)), (0, .inr (.inr (some 99))), (1, .inr (.inr (some m)))], [], H1) Φ) : mu_W (mu_D (d + 4)) mu_m268 (27, [(2, .inl (0 : Int32)), (0, .inr (.inr (some 99))), (1, .inr (.inr (some m)))], [], H) Φ := by
  show mu_W _ _ (27, [(2, .inl (nI 0)), (0, .inr (.inr (some 99))), (1, .inr (.inr (some m)))], [], H) _
  refine mw_sub (L' := [(2, .inl (nI 0)), (0, .inr (.inr (some 99))), (1, .inr (.inr (some m)))]) (by simp) ?_
  refine mw_down (α := Nat × mu_H) (fun zs => (27, [(2, .inl (nI zs.1)), (0, .inr (.inr (some 99))), (1, .inr (.inr (some m)))], [], zs.2)) (fun zs => n - zs.1) (fun zs => um m zs.2 ∧ ur m C H zs.2 ∧ (uq F268a U (ud m zs.2)) ∧ (zs.1 ≤ n) ∧ ((ud m zs.2).2.1 99 4 = nI (pcn sz zs.1)) ∧ ((ud m zs.2).2.1 99 10 = nI (sm (pfz sz n) 0 (pcn sz zs.1))) ∧ (∀ k, k < pcn sz zs.1 → ((ud m zs.2).2.2.1 99 5).2 k = nI (pfz sz n k) ∧ ((ud m zs.2).2.2.1 99 7).2 k = nI (sm (pfz sz n) 0 k)) ∧ (((ud m zs.2).1 15).1 = n) ∧ (∀ i c, c ≠ 2 → ((ud m zs.2).1 15).2 i c = (U.1 15).2 i c) ∧ (∀ w, w < zs.1 → ((ud m zs.2).1 15).2 w 2 = if 1 < sz w then nI (pcn sz w) else -1) ∧ (∀ w, zs.1 ≤ w → w < n → ((ud m zs.2).1 15).2 w 2 = -1) ∧ (∀ k, k < 32 → ¬ mb ((ud m zs.2).2.1 99 9) k = 0 → ∃ w, w < zs.1 ∧ 1 < sz w ∧ pcn sz w = k ∧ ¬ (U.1 3).2 (vr w) 1 = 2)) (fun zs hza iha => ?_) (0, H) ⟨h, (ur.refl m C H), (show uq F268a U (ud m H) from by rw [e]; exact uq.refl _ _), (show 0 ≤ n from (Nat.zero_le _)), (show (ud m H).2.1 99 4 = nI (pcn sz 0) from by rw [e]; exact z4), (show (ud m H).2.1 99 10 = nI (sm (pfz sz n) 0 (pcn sz 0)) from by rw [e]; exact z10), (show ∀ k, k < pcn sz 0 → ((ud m H).2.2.1 99 5).2 k = nI (pfz sz n k) ∧ ((ud m H).2.2.1 99 7).2 k = nI (sm (pfz sz n) 0 k) from by rw [e]; exact (fun k hk => absurd hk (Nat.not_lt_zero k))), (show ((ud m H).1 15).1 = n from by rw [e]; exact hn), (show ∀ i c, c ≠ 2 → ((ud m H).1 15).2 i c = (U.1 15).2 i c from by rw [e]; exact (fun _ _ _ => rfl)), (show ∀ w, w < 0 → ((ud m H).1 15).2 w 2 = if 1 < sz w then nI (pcn sz w) else -1 from by rw [e]; exact (fun w hw => absurd hw (Nat.not_lt_zero w))), (show ∀ w, 0 ≤ w → w < n → ((ud m H).1 15).2 w 2 = -1 from by rw [e]; exact (fun w _ hw => hcol w hw)), (show ∀ k, k < 32 → ¬ mb ((ud m H).2.1 99 9) k = 0 → ∃ w, w < 0 ∧ 1 < sz w ∧ pcn sz w = k ∧ ¬ (U.1 3).2 (vr w) 1 = 2 from by rw [e]; exact (fun k hk y => absurd (by rw [z9]; exact mb_0 k hk) y))⟩
  obtain ⟨v, Hsa⟩ := zs
  obtain ⟨ua, hta, da, hvn, hx4, hx10, hA, ht1, ht2, ht3, ht4, hrg⟩ := hza
  have ua : um m Hsa := ua
  have hta : ur m C H Hsa := hta
  have zza : uq F268a U (ud m Hsa) := da
  have hvn : v ≤ n := hvn
  have hx4 : (ud m Hsa).2.1 99 4 = nI (pcn sz v) := hx4
  have hx10 : (ud m Hsa).2.1 99 10 = nI (sm (pfz sz n) 0 (pcn sz v)) := hx10
  have hA : ∀ k, k < pcn sz v → ((ud m Hsa).2.2.1 99 5).2 k = nI (pfz sz n k) ∧ ((ud m Hsa).2.2.1 99 7).2 k = nI (sm (pfz sz n) 0 k) := hA
  have ht1 : ((ud m Hsa).1 15).1 = n := ht1
  have ht2 : ∀ i c, c ≠ 2 → ((ud m Hsa).1 15).2 i c = (U.1 15).2 i c := ht2
  have ht3 : ∀ w, w < v → ((ud m Hsa).1 15).2 w 2 = if 1 < sz w then nI (pcn sz w) else -1 := ht3
  have ht4 : ∀ w, v ≤ w → w < n → ((ud m Hsa).1 15).2 w 2 = -1 := ht4
  have hrg : ∀ k, k < 32 → ¬ mb ((ud m Hsa).2.1 99 9) k = 0 → ∃ w, w < v ∧ 1 < sz w ∧ pcn sz w = k ∧ ¬ (U.1 3).2 (vr w) 1 = 2 := hrg
  obtain ⟨Va, da⟩ : ∃ V, ud m Hsa = V := ⟨_, rfl⟩
  rw [da] at zza hx4 hx10 hA ht1 ht2 ht3 ht4 hrg
  show mu_W _ _ (27, [(2, .inl (nI v)), (0, .inr (.inr (some 99))), (1, .inr (.inr (some m)))], [], Hsa) _
  refine mw_go mu_g268 (k := 3) (f1 := (32, [(2, .inl (nI v)), (0, .inr (.inr (some 99))), (1, .inr (.inr (some m)))], [.inr (.inr (mu_r Hsa 99 0)), .inl (nI v)], Hsa)) (C := [mu_is Hsa (some 99) 13]) rfl (show mu_is Hsa (some 99) 13 from (ua.1.1.is rfl)) ?_
  rw [(show mu_r Hsa 99 0 = (some m) from (ud_q (U := Va) (m := m) (P := 99) (j := 0) da rfl).trans ((zza.r 99 0 rfl).trans hmo))]
  refine mw_go mu_g268 (k := 1) (f1 := (35, [(2, .inl (nI v)), (0, .inr (.inr (some 99))), (1, .inr (.inr (some m)))], [.inr (.inr (mu_r Hsa m 15)), .inl (nI v)], Hsa)) (C := [mu_is Hsa (some m) 6]) rfl (show mu_is Hsa (some m) 6 from (show mu_is Hsa (some m) 6 from gi_im ua.1.1 ua.2)) ?_
  rw [(show mu_r Hsa m 15 = some (m + 31) from (gi_mr ua.1.1 ua.2 (j := 15) (by decide)).trans (congrArg some (by omega)))]
  refine mw_go mu_g268 (k := 1) (f1 := (38, [(2, .inl (nI v)), (0, .inr (.inr (some 99))), (1, .inr (.inr (some m)))], [.inl (mu_i Hsa (m + 31) 2), .inl (nI v)], Hsa)) (C := [mu_is Hsa (some (m + 31)) 10]) rfl (show mu_is Hsa (some (m + 31)) 10 from ((ua.1.1.w (md_w15 ua.2)).1)) ?_
  rw [(show mu_i Hsa (m + 31) 2 = (nI (Va.1 15).1) from (ua.size da (j := 15) (by decide) rfl).trans (congrArg (fun z => nI z.1) (show Va.1 15 = (Va.1 15) from rfl)))]
  rw [show (nI (Va.1 15).1) = nI n from congrArg nI (ht1)]
  refine mw_if (P := (nI v) < (nI n)) (a := 41) (b := 179) (fun _ => rfl) trivial (fun h1 => ?_) (fun h1 => ?_)
  · -- 41: (nI v) < (nI n)
    have nh1 : v < n := (nI_ltI (by omega) (by omega)).mp (show nI v < nI n from h1)
    refine mw_go mu_g268 (k := 2) (f1 := (45, [(2, .inl (nI v)), (0, .inr (.inr (some 99))), (1, .inr (.inr (some m)))], [.inr (.inr (mu_r Hsa 99 0))], Hsa)) (C := [mu_is Hsa (some 99) 13]) rfl (show mu_is Hsa (some 99) 13 from (ua.1.1.is rfl)) ?_
    rw [(show mu_r Hsa 99 0 = (some m) from (ud_q (U := Va) (m := m) (P := 99) (j := 0) da rfl).trans ((zza.r 99 0 rfl).trans hmo))]
    refine mw_go mu_g268 (k := 1) (f1 := (48, [(2, .inl (nI v)), (0, .inr (.inr (some 99))), (1, .inr (.inr (some m)))], [.inr (.inr (mu_r Hsa m 15))], Hsa)) (C := [mu_is Hsa (some m) 6]) rfl (show mu_is Hsa (some m) 6 from (show mu_is Hsa (some m) 6 from gi_im ua.1.1 ua.2)) ?_
    rw [(show mu_r Hsa m 15 = some (m + 31) from (gi_mr ua.1.1 ua.2 (j := 15) (by decide)).trans (congrArg some (by omega)))]
    refine mw_go mu_g268 (k := 2) (f1 := (50, [(2, .inl (nI v)), (0, .inr (.inr (some 99))), (1, .inr (.inr (some m)))], [.inl (1 : Int32), .inl (nI v), .inr (.inr (some (m + 31)))], Hsa)) (C := []) rfl trivial ?_
    refine mw_cIe (fun _ => rfl) (show mu_is Hsa (some (m + 31)) 10 from ((ua.1.1.w (md_w15 ua.2)).1)) (ua.getr (d := (d + 3)) da (j := 15) (by decide) rfl (nI v) (c := 1) (by decide)) ?_
    rw [show (tget (Va.1 15) (nI v) 1) = (nI (sz v)) from ((congrArg (fun z => tget z (nI v) 1) (show Va.1 15 = (Va.1 15) from rfl)).trans (tget_nI (by first | omega | decide))).trans ((ht2 v 1 (by decide)).trans (hsz v (by omega)).1)]
    refine mw_go mu_g268 (k := 1) (f1 := (54, [(3, .inl (nI (sz v))), (2, .inl (nI v)), (0, .inr (.inr (some 99))), (1, .inr (.inr (some m)))], [], Hsa)) (C := []) rfl trivial ?_
    have hszv : sz v ≤ 16384 := (hsz v (by omega)).2
    have hvrv : vr v < 2147483648 := (hvr v (by omega)).2
    refine mw_go mu_g268 (k := 2) (f1 := (56, [(3, .inl (nI (sz v))), (2, .inl (nI v)), (0, .inr (.inr (some 99))), (1, .inr (.inr (some m)))], [.inl (1 : Int32), .inl (nI (sz v))], Hsa)) (C := []) rfl trivial ?_
    refine mw_if (P := (1 : Int32) < (nI (sz v))) (a := 59) (b := 173) (fun _ => rfl) trivial (fun h3 => ?_) (fun h3 => ?_)
    · -- 59: (1 : Int32) < (nI (sz v))
      have nh3 : 1 < (sz v) := (nI_ltI (by omega) (by omega)).mp (show nI 1 < nI (sz v) from h3)
      have hbg : 1 < sz v := (nI_ltI (a := 1) (by decide) (by have := (hsz v (by omega)).2; omega)).mp h3
      have hp14 : pcn sz v < 14 := by have := pcn_lt hbg (show v < n by omega); omega
      have hsu : sm (pfz sz n) 0 (pcn sz v) + sz v ≤ 16384 := by have z := sm_step2 (pfz sz n) (pcn_lt hbg (show v < n by omega)); rw [pfz_at (by omega) hbg] at z; omega
      refine mw_go mu_g268 (k := 2) (f1 := (63, [(3, .inl (nI (sz v))), (2, .inl (nI v)), (0, .inr (.inr (some 99))), (1, .inr (.inr (some m)))], [.inl (mu_i Hsa 99 4)], Hsa)) (C := [mu_is Hsa (some 99) 13]) rfl (show mu_is Hsa (some 99) 13 from (ua.1.1.is rfl)) ?_
      rw [(show mu_i Hsa 99 4 = (nI (pcn sz v)) from (ud_i (U := Va) (m := m) (P := 99) (j := 4) da rfl).trans hx4)]
      refine mw_go mu_g268 (k := 1) (f1 := (65, [(3, .inl (nI (sz v))), (2, .inl (nI v)), (0, .inr (.inr (some 99))), (1, .inr (.inr (some m)))], [.inl (14 : Int32), .inl (nI (pcn sz v))], Hsa)) (C := []) rfl trivial ?_
      refine mw_if (P := (nI (pcn sz v)) < (14 : Int32)) (a := 68) (b := 173) (fun _ => rfl) trivial (fun h4 => ?_) (fun h4 => absurd ((nI_ltI (b := 14) (by omega) (by decide)).mpr hp14) h4)
      refine mw_go mu_g268 (k := 2) (f1 := (72, [(3, .inl (nI (sz v))), (2, .inl (nI v)), (0, .inr (.inr (some 99))), (1, .inr (.inr (some m)))], [.inr (.inr (mu_r Hsa 99 0))], Hsa)) (C := [mu_is Hsa (some 99) 13]) rfl (show mu_is Hsa (some 99) 13 from (ua.1.1.is rfl)) ?_
      rw [(show mu_r Hsa 99 0 = (some m) from (ud_q (U := Va) (m := m) (P := 99) (j := 0) da rfl).trans ((zza.r 99 0 rfl).trans hmo))]
      refine mw_go mu_g268 (k := 1) (f1 := (75, [(3, .inl (nI (sz v))), (2, .inl (nI v)), (0, .inr (.inr (some 99))), (1, .inr (.inr (some m)))], [.inr (.inr (mu_r Hsa m 15))], Hsa)) (C := [mu_is Hsa (some m) 6]) rfl (show mu_is Hsa (some m) 6 from (show mu_is Hsa (some m) 6 from gi_im ua.1.1 ua.2)) ?_
      rw [(show mu_r Hsa m 15 = some (m + 31) from (gi_mr ua.1.1 ua.2 (j := 15) (by decide)).trans (congrArg some (by omega)))]
      refine mw_go mu_g268 (k := 4) (f1 := (81, [(3, .inl (nI (sz v))), (2, .inl (nI v)), (0, .inr (.inr (some 99))), (1, .inr (.inr (some m)))], [.inl (mu_i Hsa 99 4), .inl (2 : Int32), .inl (nI v), .inr (.inr (some (m + 31)))], Hsa)) (C := [mu_is Hsa (some 99) 13]) rfl (show mu_is Hsa (some 99) 13 from (ua.1.1.is rfl)) ?_
      rw [(show mu_i Hsa 99 4 = (nI (pcn sz v)) from (ud_i (U := Va) (m := m) (P := 99) (j := 4) da rfl).trans hx4)]
      refine mw_cV (fun _ => rfl) (show mu_is Hsa (some (m + 31)) 10 from ((ua.1.1.w (md_w15 ua.2)).1)) (ua.setr (C := C) (d := (d + 3)) da (j := 15) (Or.inl (by decide)) rfl (nI v) (nI (pcn sz v)) (c := 2) (by decide)) (fun Q5 q5 => ?_)
      obtain ⟨u5, r5, d5⟩ := q5
      have ht5 : ur m C H Q5 := hta.trans r5
      refine mw_go mu_g268 (k := 2) (f1 := (88, [(3, .inl (nI (sz v))), (2, .inl (nI v)), (0, .inr (.inr (some 99))), (1, .inr (.inr (some m)))], [.inr (.inr (mu_r Q5 99 5))], Q5)) (C := [mu_is Q5 (some 99) 13]) rfl (show mu_is Q5 (some 99) 13 from (u5.1.1.is rfl)) ?_
      rw [(u5.1.1.r (p := 99) (j := 5) (q := 120) rfl)]
      refine mw_go mu_g268 (k := 2) (f1 := (92, [(3, .inl (nI (sz v))), (2, .inl (nI v)), (0, .inr (.inr (some 99))), (1, .inr (.inr (some m)))], [.inl (mu_i Q5 99 4), .inr (.inr (some 120))], Q5)) (C := [mu_is Q5 (some 99) 13]) rfl (show mu_is Q5 (some 99) 13 from (u5.1.1.is rfl)) ?_
      rw [(show mu_i Q5 99 4 = (nI (pcn sz v)) from (ud_i (U := (upT Va (ax 15 Va.1 (nI v) 2 (nI (pcn sz v))))) (m := m) (P := 99) (j := 4) d5 rfl).trans hx4)]
      refine mw_go mu_g268 (k := 2) (f1 := (94, [(3, .inl (nI (sz v))), (2, .inl (nI v)), (0, .inr (.inr (some 99))), (1, .inr (.inr (some m)))], [], (mu_si Q5 120 (nI (pcn sz v)).toNatClampNeg (nI (sz v))))) (C := [mu_is Q5 (some 120) 100, vp_in (nI (pcn sz v)) (mu_n Q5 120)]) rfl (show (mu_is Q5 (some 120) 100) ∧ (vp_in (nI (pcn sz v)) (mu_n Q5 120)) from ⟨(u5.iA d5 rfl rfl ((ud_q (m := m) (P := 99) (j := 5) d5 rfl).symm.trans (u5.1.1.r (p := 99) (j := 5) (q := 120) rfl))), (by rw [show mu_n Q5 120 = 14 from (u5.1.1.a (p := 120) (x := (100, 14)) rfl).2]; exact vp_in_nI (n := pcn sz v) (by omega) (by decide))⟩) ?_
      rw [(show (nI (pcn sz v)).toNatClampNeg = pcn sz v from nI_clamp (by omega))]
      obtain ⟨u6, r6, d6⟩ : um m (mu_si Q5 120 (pcn sz v) (nI (sz v))) ∧ ur m C Q5 (mu_si Q5 120 (pcn sz v) (nI (sz v))) ∧ ud m (mu_si Q5 120 (pcn sz v) (nI (sz v))) = (upA (upT Va (ax 15 Va.1 (nI v) 2 (nI (pcn sz v)))) 99 5 (pcn sz v) (nI (sz v))) := u5.sA (C := C) d5 rfl rfl ((ud_q (m := m) (P := 99) (j := 5) d5 rfl).symm.trans (u5.1.1.r (p := 99) (j := 5) (q := 120) rfl))
      generalize (mu_si Q5 120 (pcn sz v) (nI (sz v))) = Q6 at u6 r6 d6 ⊢
      have ht6 : ur m C H Q6 := ht5.trans r6
      refine mw_go mu_g268 (k := 3) (f1 := (99, [(3, .inl (nI (sz v))), (2, .inl (nI v)), (0, .inr (.inr (some 99))), (1, .inr (.inr (some m)))], [.inl (mu_i Q6 99 9), .inr (.inr (some 99))], Q6)) (C := [mu_is Q6 (some 99) 13]) rfl (show mu_is Q6 (some 99) 13 from (u6.1.1.is rfl)) ?_
      rw [(show mu_i Q6 99 9 = (Va.2.1 99 9) from (ud_i (U := (upA (upT Va (ax 15 Va.1 (nI v) 2 (nI (pcn sz v)))) 99 5 (pcn sz v) (nI (sz v)))) (m := m) (P := 99) (j := 9) d6 rfl))]
      refine mw_go mu_g268 (k := 2) (f1 := (103, [(3, .inl (nI (sz v))), (2, .inl (nI v)), (0, .inr (.inr (some 99))), (1, .inr (.inr (some m)))], [.inr (.inr (mu_r Q6 99 0)), .inl (Va.2.1 99 9), .inr (.inr (some 99))], Q6)) (C := [mu_is Q6 (some 99) 13]) rfl (show mu_is Q6 (some 99) 13 from (u6.1.1.is rfl)) ?_
      rw [(show mu_r Q6 99 0 = (some m) from (ud_q (U := (upA (upT Va (ax 15 Va.1 (nI v) 2 (nI (pcn sz v)))) 99 5 (pcn sz v) (nI (sz v)))) (m := m) (P := 99) (j := 0) d6 rfl).trans ((zza.r 99 0 rfl).trans hmo))]
      refine mw_go mu_g268 (k := 1) (f1 := (106, [(3, .inl (nI (sz v))), (2, .inl (nI v)), (0, .inr (.inr (some 99))), (1, .inr (.inr (some m)))], [.inr (.inr (mu_r Q6 m 3)), .inl (Va.2.1 99 9), .inr (.inr (some 99))], Q6)) (C := [mu_is Q6 (some m) 6]) rfl (show mu_is Q6 (some m) 6 from (show mu_is Q6 (some m) 6 from gi_im u6.1.1 u6.2)) ?_
      rw [(show mu_r Q6 m 3 = some (m + 7) from (gi_mr u6.1.1 u6.2 (j := 3) (by decide)).trans (congrArg some (by omega)))]
      refine mw_go mu_g268 (k := 2) (f1 := (110, [(3, .inl (nI (sz v))), (2, .inl (nI v)), (0, .inr (.inr (some 99))), (1, .inr (.inr (some m)))], [.inr (.inr (mu_r Q6 99 0)), .inr (.inr (some (m + 7))), .inl (Va.2.1 99 9), .inr (.inr (some 99))], Q6)) (C := [mu_is Q6 (some 99) 13]) rfl (show mu_is Q6 (some 99) 13 from (u6.1.1.is rfl)) ?_
      rw [(show mu_r Q6 99 0 = (some m) from (ud_q (U := (upA (upT Va (ax 15 Va.1 (nI v) 2 (nI (pcn sz v)))) 99 5 (pcn sz v) (nI (sz v)))) (m := m) (P := 99) (j := 0) d6 rfl).trans ((zza.r 99 0 rfl).trans hmo))]
      refine mw_go mu_g268 (k := 1) (f1 := (113, [(3, .inl (nI (sz v))), (2, .inl (nI v)), (0, .inr (.inr (some 99))), (1, .inr (.inr (some m)))], [.inr (.inr (mu_r Q6 m 15)), .inr (.inr (some (m + 7))), .inl (Va.2.1 99 9), .inr (.inr (some 99))], Q6)) (C := [mu_is Q6 (some m) 6]) rfl (show mu_is Q6 (some m) 6 from (show mu_is Q6 (some m) 6 from gi_im u6.1.1 u6.2)) ?_
      rw [(show mu_r Q6 m 15 = some (m + 31) from (gi_mr u6.1.1 u6.2 (j := 15) (by decide)).trans (congrArg some (by omega)))]
      refine mw_go mu_g268 (k := 2) (f1 := (115, [(3, .inl (nI (sz v))), (2, .inl (nI v)), (0, .inr (.inr (some 99))), (1, .inr (.inr (some m)))], [.inl (0 : Int32), .inl (nI v), .inr (.inr (some (m + 31))), .inr (.inr (some (m + 7))), .inl (Va.2.1 99 9), .inr (.inr (some 99))], Q6)) (C := []) rfl trivial ?_
      refine mw_cIe (fun _ => rfl) (show mu_is Q6 (some (m + 31)) 10 from ((u6.1.1.w (md_w15 u6.2)).1)) (u6.getr (d := (d + 3)) d6 (j := 15) (by decide) rfl (nI v) (c := 0) (by decide)) ?_
      rw [show (tget ((upA (upT Va (ax 15 Va.1 (nI v) 2 (nI (pcn sz v)))) 99 5 (pcn sz v) (nI (sz v))).1 15) (nI v) 0) = (nI (vr v)) from ((congrArg (fun z => tget z (nI v) 0) (show (upA (upT Va (ax 15 Va.1 (nI v) 2 (nI (pcn sz v)))) 99 5 (pcn sz v) (nI (sz v))).1 15 = ((upA (upT Va (ax 15 Va.1 (nI v) 2 (nI (pcn sz v)))) 99 5 (pcn sz v) (nI (sz v))).1 15) from rfl)).trans (tget_nI (by first | omega | decide))).trans ((ax_c (fun _ _ => by decide)).trans ((ht2 v 0 (by decide)).trans (hvr v (by omega)).1))]
      refine mw_go mu_g268 (k := 1) (f1 := (119, [(3, .inl (nI (sz v))), (2, .inl (nI v)), (0, .inr (.inr (some 99))), (1, .inr (.inr (some m)))], [.inl (1 : Int32), .inl (nI (vr v)), .inr (.inr (some (m + 7))), .inl (Va.2.1 99 9), .inr (.inr (some 99))], Q6)) (C := []) rfl trivial ?_
      refine mw_cIe (fun _ => rfl) (show mu_is Q6 (some (m + 7)) 10 from ((u6.1.1.w (md_w3 u6.2)).1)) (u6.getr (d := (d + 3)) d6 (j := 3) (by decide) rfl (nI (vr v)) (c := 1) (by decide)) ?_
      rw [show (tget ((upA (upT Va (ax 15 Va.1 (nI v) 2 (nI (pcn sz v)))) 99 5 (pcn sz v) (nI (sz v))).1 3) (nI (vr v)) 1) = ((U.1 3).2 (vr v) 1) from (congrArg (fun z => tget z (nI (vr v)) 1) (show (upA (upT Va (ax 15 Va.1 (nI v) 2 (nI (pcn sz v)))) 99 5 (pcn sz v) (nI (sz v))).1 3 = (U.1 3) from (zza.t 3 rfl))).trans (tget_nI (by first | omega | decide))]
      refine mw_go mu_g268 (k := 1) (f1 := (123, [(3, .inl (nI (sz v))), (2, .inl (nI v)), (0, .inr (.inr (some 99))), (1, .inr (.inr (some m)))], [.inl (2 : Int32), .inl ((U.1 3).2 (vr v) 1), .inl (Va.2.1 99 9), .inr (.inr (some 99))], Q6)) (C := []) rfl trivial ?_
      refine mw_if (P := ((U.1 3).2 (vr v) 1) = (2 : Int32)) (a := 126) (b := 130) (fun _ => rfl) trivial (fun h9 => ?_) (fun h9 => ?_)
      · -- 126: ((U.1 3).2 (vr v) 1) = (2 : Int32)
        refine mw_go mu_g268 (k := 4) (f1 := (140, [(3, .inl (nI (sz v))), (2, .inl (nI v)), (0, .inr (.inr (some 99))), (1, .inr (.inr (some m)))], [], (mu_si Q6 99 9 ((Va.2.1 99 9) ||| (0 : Int32))))) (C := [mu_is Q6 (some 99) 13]) rfl (show mu_is Q6 (some 99) 13 from (u6.1.1.is rfl)) ?_
        obtain ⟨u10, r10, d10⟩ : um m (mu_si Q6 99 9 ((Va.2.1 99 9) ||| (0 : Int32))) ∧ ur m C Q6 (mu_si Q6 99 9 ((Va.2.1 99 9) ||| (0 : Int32))) ∧ ud m (mu_si Q6 99 9 ((Va.2.1 99 9) ||| (0 : Int32))) = (upI (upA (upT Va (ax 15 Va.1 (nI v) 2 (nI (pcn sz v)))) 99 5 (pcn sz v) (nI (sz v))) 99 9 ((Va.2.1 99 9) ||| (0 : Int32))) := u6.sI (C := C) d6 rfl
        generalize (mu_si Q6 99 9 ((Va.2.1 99 9) ||| (0 : Int32))) = Q10 at u10 r10 d10 ⊢
        have ht10 : ur m C H Q10 := ht6.trans r10
        refine mw_go mu_g268 (k := 2) (f1 := (144, [(3, .inl (nI (sz v))), (2, .inl (nI v)), (0, .inr (.inr (some 99))), (1, .inr (.inr (some m)))], [.inr (.inr (mu_r Q10 99 7))], Q10)) (C := [mu_is Q10 (some 99) 13]) rfl (show mu_is Q10 (some 99) 13 from (u10.1.1.is rfl)) ?_
        rw [(u10.1.1.r (p := 99) (j := 7) (q := 122) rfl)]
        refine mw_go mu_g268 (k := 2) (f1 := (148, [(3, .inl (nI (sz v))), (2, .inl (nI v)), (0, .inr (.inr (some 99))), (1, .inr (.inr (some m)))], [.inl (mu_i Q10 99 4), .inr (.inr (some 122))], Q10)) (C := [mu_is Q10 (some 99) 13]) rfl (show mu_is Q10 (some 99) 13 from (u10.1.1.is rfl)) ?_
        rw [(show mu_i Q10 99 4 = (nI (pcn sz v)) from (ud_i (U := (upI (upA (upT Va (ax 15 Va.1 (nI v) 2 (nI (pcn sz v)))) 99 5 (pcn sz v) (nI (sz v))) 99 9 ((Va.2.1 99 9) ||| (0 : Int32)))) (m := m) (P := 99) (j := 4) d10 rfl).trans hx4)]
        refine mw_go mu_g268 (k := 2) (f1 := (152, [(3, .inl (nI (sz v))), (2, .inl (nI v)), (0, .inr (.inr (some 99))), (1, .inr (.inr (some m)))], [.inl (mu_i Q10 99 10), .inl (nI (pcn sz v)), .inr (.inr (some 122))], Q10)) (C := [mu_is Q10 (some 99) 13]) rfl (show mu_is Q10 (some 99) 13 from (u10.1.1.is rfl)) ?_
        rw [(show mu_i Q10 99 10 = (nI (sm (pfz sz n) 0 (pcn sz v))) from (ud_i (U := (upI (upA (upT Va (ax 15 Va.1 (nI v) 2 (nI (pcn sz v)))) 99 5 (pcn sz v) (nI (sz v))) 99 9 ((Va.2.1 99 9) ||| (0 : Int32)))) (m := m) (P := 99) (j := 10) d10 rfl).trans hx10)]
        refine mw_go mu_g268 (k := 1) (f1 := (153, [(3, .inl (nI (sz v))), (2, .inl (nI v)), (0, .inr (.inr (some 99))), (1, .inr (.inr (some m)))], [], (mu_si Q10 122 (nI (pcn sz v)).toNatClampNeg (nI (sm (pfz sz n) 0 (pcn sz v)))))) (C := [mu_is Q10 (some 122) 100, vp_in (nI (pcn sz v)) (mu_n Q10 122)]) rfl (show (mu_is Q10 (some 122) 100) ∧ (vp_in (nI (pcn sz v)) (mu_n Q10 122)) from ⟨(u10.iA d10 rfl rfl ((ud_q (m := m) (P := 99) (j := 7) d10 rfl).symm.trans (u10.1.1.r (p := 99) (j := 7) (q := 122) rfl))), (by rw [show mu_n Q10 122 = 14 from (u10.1.1.a (p := 122) (x := (100, 14)) rfl).2]; exact vp_in_nI (n := pcn sz v) (by omega) (by decide))⟩) ?_
        rw [(show (nI (pcn sz v)).toNatClampNeg = pcn sz v from nI_clamp (by omega))]
        obtain ⟨u11, r11, d11⟩ : um m (mu_si Q10 122 (pcn sz v) (nI (sm (pfz sz n) 0 (pcn sz v)))) ∧ ur m C Q10 (mu_si Q10 122 (pcn sz v) (nI (sm (pfz sz n) 0 (pcn sz v)))) ∧ ud m (mu_si Q10 122 (pcn sz v) (nI (sm (pfz sz n) 0 (pcn sz v)))) = (upA (upI (upA (upT Va (ax 15 Va.1 (nI v) 2 (nI (pcn sz v)))) 99 5 (pcn sz v) (nI (sz v))) 99 9 ((Va.2.1 99 9) ||| (0 : Int32))) 99 7 (pcn sz v) (nI (sm (pfz sz n) 0 (pcn sz v)))) := u10.sA (C := C) d10 rfl rfl ((ud_q (m := m) (P := 99) (j := 7) d10 rfl).symm.trans (u10.1.1.r (p := 99) (j := 7) (q := 122) rfl))
        generalize (mu_si Q10 122 (pcn sz v) (nI (sm (pfz sz n) 0 (pcn sz v)))) = Q11 at u11 r11 d11 ⊢
        have ht11 : ur m C H Q11 := ht10.trans r11
        refine mw_go mu_g268 (k := 3) (f1 := (158, [(3, .inl (nI (sz v))), (2, .inl (nI v)), (0, .inr (.inr (some 99))), (1, .inr (.inr (some m)))], [.inl (mu_i Q11 99 10), .inr (.inr (some 99))], Q11)) (C := [mu_is Q11 (some 99) 13]) rfl (show mu_is Q11 (some 99) 13 from (u11.1.1.is rfl)) ?_
        rw [(show mu_i Q11 99 10 = (nI (sm (pfz sz n) 0 (pcn sz v))) from (ud_i (U := (upA (upI (upA (upT Va (ax 15 Va.1 (nI v) 2 (nI (pcn sz v)))) 99 5 (pcn sz v) (nI (sz v))) 99 9 ((Va.2.1 99 9) ||| (0 : Int32))) 99 7 (pcn sz v) (nI (sm (pfz sz n) 0 (pcn sz v))))) (m := m) (P := 99) (j := 10) d11 rfl).trans hx10)]
        refine mw_go mu_g268 (k := 2) (f1 := (160, [(3, .inl (nI (sz v))), (2, .inl (nI v)), (0, .inr (.inr (some 99))), (1, .inr (.inr (some m)))], [.inl ((nI (sm (pfz sz n) 0 (pcn sz v))) + (nI (sz v))), .inr (.inr (some 99))], Q11)) (C := []) rfl trivial ?_
        rw [(show ((nI (sm (pfz sz n) 0 (pcn sz v))) + (nI (sz v))) = (nI ((sm (pfz sz n) 0 (pcn sz v)) + (sz v))) from (nI_add (sm (pfz sz n) 0 (pcn sz v)) (sz v)))]
        refine mw_go mu_g268 (k := 1) (f1 := (163, [(3, .inl (nI (sz v))), (2, .inl (nI v)), (0, .inr (.inr (some 99))), (1, .inr (.inr (some m)))], [], (mu_si Q11 99 10 (nI ((sm (pfz sz n) 0 (pcn sz v)) + (sz v)))))) (C := [mu_is Q11 (some 99) 13]) rfl (show mu_is Q11 (some 99) 13 from (u11.1.1.is rfl)) ?_
        obtain ⟨u12, r12, d12⟩ : um m (mu_si Q11 99 10 (nI ((sm (pfz sz n) 0 (pcn sz v)) + (sz v)))) ∧ ur m C Q11 (mu_si Q11 99 10 (nI ((sm (pfz sz n) 0 (pcn sz v)) + (sz v)))) ∧ ud m (mu_si Q11 99 10 (nI ((sm (pfz sz n) 0 (pcn sz v)) + (sz v)))) = (upI (upA (upI (upA (upT Va (ax 15 Va.1 (nI v) 2 (nI (pcn sz v)))) 99 5 (pcn sz v) (nI (sz v))) 99 9 ((Va.2.1 99 9) ||| (0 : Int32))) 99 7 (pcn sz v) (nI (sm (pfz sz n) 0 (pcn sz v)))) 99 10 (nI ((sm (pfz sz n) 0 (pcn sz v)) + (sz v)))) := u11.sI (C := C) d11 rfl
        generalize (mu_si Q11 99 10 (nI ((sm (pfz sz n) 0 (pcn sz v)) + (sz v)))) = Q12 at u12 r12 d12 ⊢
        have ht12 : ur m C H Q12 := ht11.trans r12
        refine mw_go mu_g268 (k := 3) (f1 := (168, [(3, .inl (nI (sz v))), (2, .inl (nI v)), (0, .inr (.inr (some 99))), (1, .inr (.inr (some m)))], [.inl (mu_i Q12 99 4), .inr (.inr (some 99))], Q12)) (C := [mu_is Q12 (some 99) 13]) rfl (show mu_is Q12 (some 99) 13 from (u12.1.1.is rfl)) ?_
        rw [(show mu_i Q12 99 4 = (nI (pcn sz v)) from (ud_i (U := (upI (upA (upI (upA (upT Va (ax 15 Va.1 (nI v) 2 (nI (pcn sz v)))) 99 5 (pcn sz v) (nI (sz v))) 99 9 ((Va.2.1 99 9) ||| (0 : Int32))) 99 7 (pcn sz v) (nI (sm (pfz sz n) 0 (pcn sz v)))) 99 10 (nI ((sm (pfz sz n) 0 (pcn sz v)) + (sz v))))) (m := m) (P := 99) (j := 4) d12 rfl).trans hx4)]
        refine mw_go mu_g268 (k := 2) (f1 := (170, [(3, .inl (nI (sz v))), (2, .inl (nI v)), (0, .inr (.inr (some 99))), (1, .inr (.inr (some m)))], [.inl ((nI (pcn sz v)) + (1 : Int32)), .inr (.inr (some 99))], Q12)) (C := []) rfl trivial ?_
        rw [(show ((nI (pcn sz v)) + (1 : Int32)) = (nI ((pcn sz v) + 1)) from (nI_add (pcn sz v) 1))]
        refine mw_go mu_g268 (k := 1) (f1 := (173, [(3, .inl (nI (sz v))), (2, .inl (nI v)), (0, .inr (.inr (some 99))), (1, .inr (.inr (some m)))], [], (mu_si Q12 99 4 (nI ((pcn sz v) + 1))))) (C := [mu_is Q12 (some 99) 13]) rfl (show mu_is Q12 (some 99) 13 from (u12.1.1.is rfl)) ?_
        obtain ⟨u13, r13, d13⟩ : um m (mu_si Q12 99 4 (nI ((pcn sz v) + 1))) ∧ ur m C Q12 (mu_si Q12 99 4 (nI ((pcn sz v) + 1))) ∧ ud m (mu_si Q12 99 4 (nI ((pcn sz v) + 1))) = (upI (upI (upA (upI (upA (upT Va (ax 15 Va.1 (nI v) 2 (nI (pcn sz v)))) 99 5 (pcn sz v) (nI (sz v))) 99 9 ((Va.2.1 99 9) ||| (0 : Int32))) 99 7 (pcn sz v) (nI (sm (pfz sz n) 0 (pcn sz v)))) 99 10 (nI ((sm (pfz sz n) 0 (pcn sz v)) + (sz v)))) 99 4 (nI ((pcn sz v) + 1))) := u12.sI (C := C) d12 rfl
        generalize (mu_si Q12 99 4 (nI ((pcn sz v) + 1))) = Q13 at u13 r13 d13 ⊢
        have ht13 : ur m C H Q13 := ht12.trans r13
        refine mw_go mu_g268 (k := 1) (f1 := (176, [(2, .inl ((nI v) + 1)), (3, .inl (nI (sz v))), (0, .inr (.inr (some 99))), (1, .inr (.inr (some m)))], [], Q13)) (C := []) rfl trivial ?_
        rw [(show ((nI v) + 1) = (nI (v + 1)) from (nI_add v 1))]
        refine mw_go mu_g268 (k := 1) (f1 := (27, [(2, .inl (nI (v + 1))), (3, .inl (nI (sz v))), (0, .inr (.inr (some 99))), (1, .inr (.inr (some m)))], [], Q13)) (C := []) rfl trivial ?_
        exact mw_sub (by simp) (iha (v + 1, Q13) ⟨u13, ht13, (show uq F268a U (ud m Q13) from by rw [d13]; exact ((((((zza.T (fun q hq => by first | exact ax_ne (in1_ne rfl hq) | exact ap_ne (in1_ne rfl hq) | exact fu_ne _ _ (in1_ne rfl hq))).A rfl).I rfl).A rfl).I rfl).I rfl)), (show (v + 1) ≤ n from (by omega)), (show (ud m Q13).2.1 99 4 = nI (pcn sz (v + 1)) from by rw [d13]; exact (by rw [pcn_up hbg]; rfl)), (show (ud m Q13).2.1 99 10 = nI (sm (pfz sz n) 0 (pcn sz (v + 1))) from by rw [d13]; exact (by rw [pcn_up hbg]; show nI (sm (pfz sz n) 0 (pcn sz v) + sz v) = nI (sm (pfz sz n) 0 (pcn sz v) + (pfz sz n) (0 + pcn sz v)); rw [Nat.zero_add, pfz_at (by omega) hbg])), (show ∀ k, k < pcn sz (v + 1) → ((ud m Q13).2.2.1 99 5).2 k = nI (pfz sz n k) ∧ ((ud m Q13).2.2.1 99 7).2 k = nI (sm (pfz sz n) 0 k) from by rw [d13]; exact (by rw [pcn_up hbg]; intro k hk; refine ⟨?_, ?_⟩; (focus (show (if k = pcn sz v then nI (sz v) else (Va.2.2.1 99 5).2 k) = _; by_cases y : k = pcn sz v; (focus (rw [if_pos y, y, pfz_at (by omega) hbg])); (rw [if_neg y]; exact (hA k (by omega)).1))); (show (if k = pcn sz v then nI (sm (pfz sz n) 0 (pcn sz v)) else (Va.2.2.1 99 7).2 k) = _; by_cases y : k = pcn sz v; (focus (rw [if_pos y, y])); (rw [if_neg y]; exact (hA k (by omega)).2)))), (show ((ud m Q13).1 15).1 = n from by rw [d13]; exact (ax_n.trans ht1)), (show ∀ i c, c ≠ 2 → ((ud m Q13).1 15).2 i c = (U.1 15).2 i c from by rw [d13]; exact (fun i c hc => (ax_c (fun _ _ => hc)).trans (ht2 i c hc))), (show ∀ w, w < (v + 1) → ((ud m Q13).1 15).2 w 2 = if 1 < sz w then nI (pcn sz w) else -1 from by rw [d13]; exact (fun w hw => by by_cases y : w = v; (focus (rw [y, if_pos hbg]; exact ax_hit (by omega) (by decide) (by omega))); (exact (ax_c (fun _ z => absurd (z.trans (nI_clamp (by omega))) y)).trans (ht3 w (by omega))))), (show ∀ w, (v + 1) ≤ w → w < n → ((ud m Q13).1 15).2 w 2 = -1 from by rw [d13]; exact (fun w w1 w2 => (ax_c (fun _ z => absurd (z.trans (nI_clamp (by omega))) (by omega))).trans (ht4 w (by omega) w2))), (show ∀ k, k < 32 → ¬ mb ((ud m Q13).2.1 99 9) k = 0 → ∃ w, w < (v + 1) ∧ 1 < sz w ∧ pcn sz w = k ∧ ¬ (U.1 3).2 (vr w) 1 = 2 from by rw [d13]; exact (fun k hk y => by rw [show (upI (upI (upA (upI (upA (upT Va (ax 15 Va.1 (nI v) 2 (nI (pcn sz v)))) 99 5 (pcn sz v) (nI (sz v))) 99 9 ((Va.2.1 99 9) ||| (0 : Int32))) 99 7 (pcn sz v) (nI (sm (pfz sz n) 0 (pcn sz v)))) 99 10 (nI ((sm (pfz sz n) 0 (pcn sz v)) + (sz v)))) 99 4 (nI ((pcn sz v) + 1))).2.1 99 9 = Va.2.1 99 9 ||| (0 : Int32) from rfl, mb_or0] at y; obtain ⟨w, w1, w2⟩ := hrg k hk y; exact ⟨w, by omega, w2⟩))⟩ (by show n - (v + 1) < n - v; omega))
      · -- 130: not ((U.1 3).2 (vr v) 1) = (2 : Int32)
        have hty : ¬ (U.1 3).2 (vr v) 1 = 2 := h9
        refine mw_go mu_g268 (k := 3) (f1 := (135, [(3, .inl (nI (sz v))), (2, .inl (nI v)), (0, .inr (.inr (some 99))), (1, .inr (.inr (some m)))], [.inl (mu_i Q6 99 4), .inl (1 : Int32), .inl (Va.2.1 99 9), .inr (.inr (some 99))], Q6)) (C := [mu_is Q6 (some 99) 13]) rfl (show mu_is Q6 (some 99) 13 from (u6.1.1.is rfl)) ?_
        rw [(show mu_i Q6 99 4 = (nI (pcn sz v)) from (ud_i (U := (upA (upT Va (ax 15 Va.1 (nI v) 2 (nI (pcn sz v)))) 99 5 (pcn sz v) (nI (sz v)))) (m := m) (P := 99) (j := 4) d6 rfl).trans hx4)]
        refine mw_go mu_g268 (k := 3) (f1 := (140, [(3, .inl (nI (sz v))), (2, .inl (nI v)), (0, .inr (.inr (some 99))), (1, .inr (.inr (some m)))], [], (mu_si Q6 99 9 ((Va.2.1 99 9) ||| ((1 : Int32) <<< ((nI (pcn sz v)) &&& 31)))))) (C := [mu_is Q6 (some 99) 13]) rfl (show mu_is Q6 (some 99) 13 from (u6.1.1.is rfl)) ?_
        obtain ⟨u14, r14, d14⟩ : um m (mu_si Q6 99 9 ((Va.2.1 99 9) ||| ((1 : Int32) <<< ((nI (pcn sz v)) &&& 31)))) ∧ ur m C Q6 (mu_si Q6 99 9 ((Va.2.1 99 9) ||| ((1 : Int32) <<< ((nI (pcn sz v)) &&& 31)))) ∧ ud m (mu_si Q6 99 9 ((Va.2.1 99 9) ||| ((1 : Int32) <<< ((nI (pcn sz v)) &&& 31)))) = (upI (upA (upT Va (ax 15 Va.1 (nI v) 2 (nI (pcn sz v)))) 99 5 (pcn sz v) (nI (sz v))) 99 9 ((Va.2.1 99 9) ||| ((1 : Int32) <<< ((nI (pcn sz v)) &&& 31)))) := u6.sI (C := C) d6 rfl
        generalize (mu_si Q6 99 9 ((Va.2.1 99 9) ||| ((1 : Int32) <<< ((nI (pcn sz v)) &&& 31)))) = Q14 at u14 r14 d14 ⊢
        have ht14 : ur m C H Q14 := ht6.trans r14
        refine mw_go mu_g268 (k := 2) (f1 := (144, [(3, .inl (nI (sz v))), (2, .inl (nI v)), (0, .inr (.inr (some 99))), (1, .inr (.inr (some m)))], [.inr (.inr (mu_r Q14 99 7))], Q14)) (C := [mu_is Q14 (some 99) 13]) rfl (show mu_is Q14 (some 99) 13 from (u14.1.1.is rfl)) ?_
        rw [(u14.1.1.r (p := 99) (j := 7) (q := 122) rfl)]
        refine mw_go mu_g268 (k := 2) (f1 := (148, [(3, .inl (nI (sz v))), (2, .inl (nI v)), (0, .inr (.inr (some 99))), (1, .inr (.inr (some m)))], [.inl (mu_i Q14 99 4), .inr (.inr (some 122))], Q14)) (C := [mu_is Q14 (some 99) 13]) rfl (show mu_is Q14 (some 99) 13 from (u14.1.1.is rfl)) ?_
        rw [(show mu_i Q14 99 4 = (nI (pcn sz v)) from (ud_i (U := (upI (upA (upT Va (ax 15 Va.1 (nI v) 2 (nI (pcn sz v)))) 99 5 (pcn sz v) (nI (sz v))) 99 9 ((Va.2.1 99 9) ||| ((1 : Int32) <<< ((nI (pcn sz v)) &&& 31))))) (m := m) (P := 99) (j := 4) d14 rfl).trans hx4)]
        refine mw_go mu_g268 (k := 2) (f1 := (152, [(3, .inl (nI (sz v))), (2, .inl (nI v)), (0, .inr (.inr (some 99))), (1, .inr (.inr (some m)))], [.inl (mu_i Q14 99 10), .inl (nI (pcn sz v)), .inr (.inr (some 122))], Q14)) (C := [mu_is Q14 (some 99) 13]) rfl (show mu_is Q14 (some 99) 13 from (u14.1.1.is rfl)) ?_
        rw [(show mu_i Q14 99 10 = (nI (sm (pfz sz n) 0 (pcn sz v))) from (ud_i (U := (upI (upA (upT Va (ax 15 Va.1 (nI v) 2 (nI (pcn sz v)))) 99 5 (pcn sz v) (nI (sz v))) 99 9 ((Va.2.1 99 9) ||| ((1 : Int32) <<< ((nI (pcn sz v)) &&& 31))))) (m := m) (P := 99) (j := 10) d14 rfl).trans hx10)]
        refine mw_go mu_g268 (k := 1) (f1 := (153, [(3, .inl (nI (sz v))), (2, .inl (nI v)), (0, .inr (.inr (some 99))), (1, .inr (.inr (some m)))], [], (mu_si Q14 122 (nI (pcn sz v)).toNatClampNeg (nI (sm (pfz sz n) 0 (pcn sz v)))))) (C := [mu_is Q14 (some 122) 100, vp_in (nI (pcn sz v)) (mu_n Q14 122)]) rfl (show (mu_is Q14 (some 122) 100) ∧ (vp_in (nI (pcn sz v)) (mu_n Q14 122)) from ⟨(u14.iA d14 rfl rfl ((ud_q (m := m) (P := 99) (j := 7) d14 rfl).symm.trans (u14.1.1.r (p := 99) (j := 7) (q := 122) rfl))), (by rw [show mu_n Q14 122 = 14 from (u14.1.1.a (p := 122) (x := (100, 14)) rfl).2]; exact vp_in_nI (n := pcn sz v) (by omega) (by decide))⟩) ?_
        rw [(show (nI (pcn sz v)).toNatClampNeg = pcn sz v from nI_clamp (by omega))]
        obtain ⟨u15, r15, d15⟩ : um m (mu_si Q14 122 (pcn sz v) (nI (sm (pfz sz n) 0 (pcn sz v)))) ∧ ur m C Q14 (mu_si Q14 122 (pcn sz v) (nI (sm (pfz sz n) 0 (pcn sz v)))) ∧ ud m (mu_si Q14 122 (pcn sz v) (nI (sm (pfz sz n) 0 (pcn sz v)))) = (upA (upI (upA (upT Va (ax 15 Va.1 (nI v) 2 (nI (pcn sz v)))) 99 5 (pcn sz v) (nI (sz v))) 99 9 ((Va.2.1 99 9) ||| ((1 : Int32) <<< ((nI (pcn sz v)) &&& 31)))) 99 7 (pcn sz v) (nI (sm (pfz sz n) 0 (pcn sz v)))) := u14.sA (C := C) d14 rfl rfl ((ud_q (m := m) (P := 99) (j := 7) d14 rfl).symm.trans (u14.1.1.r (p := 99) (j := 7) (q := 122) rfl))
        generalize (mu_si Q14 122 (pcn sz v) (nI (sm (pfz sz n) 0 (pcn sz v)))) = Q15 at u15 r15 d15 ⊢
        have ht15 : ur m C H Q15 := ht14.trans r15
        refine mw_go mu_g268 (k := 3) (f1 := (158, [(3, .inl (nI (sz v))), (2, .inl (nI v)), (0, .inr (.inr (some 99))), (1, .inr (.inr (some m)))], [.inl (mu_i Q15 99 10), .inr (.inr (some 99))], Q15)) (C := [mu_is Q15 (some 99) 13]) rfl (show mu_is Q15 (some 99) 13 from (u15.1.1.is rfl)) ?_
        rw [(show mu_i Q15 99 10 = (nI (sm (pfz sz n) 0 (pcn sz v))) from (ud_i (U := (upA (upI (upA (upT Va (ax 15 Va.1 (nI v) 2 (nI (pcn sz v)))) 99 5 (pcn sz v) (nI (sz v))) 99 9 ((Va.2.1 99 9) ||| ((1 : Int32) <<< ((nI (pcn sz v)) &&& 31)))) 99 7 (pcn sz v) (nI (sm (pfz sz n) 0 (pcn sz v))))) (m := m) (P := 99) (j := 10) d15 rfl).trans hx10)]
        refine mw_go mu_g268 (k := 2) (f1 := (160, [(3, .inl (nI (sz v))), (2, .inl (nI v)), (0, .inr (.inr (some 99))), (1, .inr (.inr (some m)))], [.inl ((nI (sm (pfz sz n) 0 (pcn sz v))) + (nI (sz v))), .inr (.inr (some 99))], Q15)) (C := []) rfl trivial ?_
        rw [(show ((nI (sm (pfz sz n) 0 (pcn sz v))) + (nI (sz v))) = (nI ((sm (pfz sz n) 0 (pcn sz v)) + (sz v))) from (nI_add (sm (pfz sz n) 0 (pcn sz v)) (sz v)))]
        refine mw_go mu_g268 (k := 1) (f1 := (163, [(3, .inl (nI (sz v))), (2, .inl (nI v)), (0, .inr (.inr (some 99))), (1, .inr (.inr (some m)))], [], (mu_si Q15 99 10 (nI ((sm (pfz sz n) 0 (pcn sz v)) + (sz v)))))) (C := [mu_is Q15 (some 99) 13]) rfl (show mu_is Q15 (some 99) 13 from (u15.1.1.is rfl)) ?_
        obtain ⟨u16, r16, d16⟩ : um m (mu_si Q15 99 10 (nI ((sm (pfz sz n) 0 (pcn sz v)) + (sz v)))) ∧ ur m C Q15 (mu_si Q15 99 10 (nI ((sm (pfz sz n) 0 (pcn sz v)) + (sz v)))) ∧ ud m (mu_si Q15 99 10 (nI ((sm (pfz sz n) 0 (pcn sz v)) + (sz v)))) = (upI (upA (upI (upA (upT Va (ax 15 Va.1 (nI v) 2 (nI (pcn sz v)))) 99 5 (pcn sz v) (nI (sz v))) 99 9 ((Va.2.1 99 9) ||| ((1 : Int32) <<< ((nI (pcn sz v)) &&& 31)))) 99 7 (pcn sz v) (nI (sm (pfz sz n) 0 (pcn sz v)))) 99 10 (nI ((sm (pfz sz n) 0 (pcn sz v)) + (sz v)))) := u15.sI (C := C) d15 rfl
        generalize (mu_si Q15 99 10 (nI ((sm (pfz sz n) 0 (pcn sz v)) + (sz v)))) = Q16 at u16 r16 d16 ⊢
        have ht16 : ur m C H Q16 := ht15.trans r16
        refine mw_go mu_g268 (k := 3) (f1 := (168, [(3, .inl (nI (sz v))), (2, .inl (nI v)), (0, .inr (.inr (some 99))), (1, .inr (.inr (some m)))], [.inl (mu_i Q16 99 4), .inr (.inr (some 99))], Q16)) (C := [mu_is Q16 (some 99) 13]) rfl (show mu_is Q16 (some 99) 13 from (u16.1.1.is rfl)) ?_
        rw [(show mu_i Q16 99 4 = (nI (pcn sz v)) from (ud_i (U := (upI (upA (upI (upA (upT Va (ax 15 Va.1 (nI v) 2 (nI (pcn sz v)))) 99 5 (pcn sz v) (nI (sz v))) 99 9 ((Va.2.1 99 9) ||| ((1 : Int32) <<< ((nI (pcn sz v)) &&& 31)))) 99 7 (pcn sz v) (nI (sm (pfz sz n) 0 (pcn sz v)))) 99 10 (nI ((sm (pfz sz n) 0 (pcn sz v)) + (sz v))))) (m := m) (P := 99) (j := 4) d16 rfl).trans hx4)]
        refine mw_go mu_g268 (k := 2) (f1 := (170, [(3, .inl (nI (sz v))), (2, .inl (nI v)), (0, .inr (.inr (some 99))), (1, .inr (.inr (some m)))], [.inl ((nI (pcn sz v)) + (1 : Int32)), .inr (.inr (some 99))], Q16)) (C := []) rfl trivial ?_
        rw [(show ((nI (pcn sz v)) + (1 : Int32)) = (nI ((pcn sz v) + 1)) from (nI_add (pcn sz v) 1))]
        refine mw_go mu_g268 (k := 1) (f1 := (173, [(3, .inl (nI (sz v))), (2, .inl (nI v)), (0, .inr (.inr (some 99))), (1, .inr (.inr (some m)))], [], (mu_si Q16 99 4 (nI ((pcn sz v) + 1))))) (C := [mu_is Q16 (some 99) 13]) rfl (show mu_is Q16 (some 99) 13 from (u16.1.1.is rfl)) ?_
        obtain ⟨u17, r17, d17⟩ : um m (mu_si Q16 99 4 (nI ((pcn sz v) + 1))) ∧ ur m C Q16 (mu_si Q16 99 4 (nI ((pcn sz v) + 1))) ∧ ud m (mu_si Q16 99 4 (nI ((pcn sz v) + 1))) = (upI (upI (upA (upI (upA (upT Va (ax 15 Va.1 (nI v) 2 (nI (pcn sz v)))) 99 5 (pcn sz v) (nI (sz v))) 99 9 ((Va.2.1 99 9) ||| ((1 : Int32) <<< ((nI (pcn sz v)) &&& 31)))) 99 7 (pcn sz v) (nI (sm (pfz sz n) 0 (pcn sz v)))) 99 10 (nI ((sm (pfz sz n) 0 (pcn sz v)) + (sz v)))) 99 4 (nI ((pcn sz v) + 1))) := u16.sI (C := C) d16 rfl
        generalize (mu_si Q16 99 4 (nI ((pcn sz v) + 1))) = Q17 at u17 r17 d17 ⊢
        have ht17 : ur m C H Q17 := ht16.trans r17
        refine mw_go mu_g268 (k := 1) (f1 := (176, [(2, .inl ((nI v) + 1)), (3, .inl (nI (sz v))), (0, .inr (.inr (some 99))), (1, .inr (.inr (some m)))], [], Q17)) (C := []) rfl trivial ?_
        rw [(show ((nI v) + 1) = (nI (v + 1)) from (nI_add v 1))]
        refine mw_go mu_g268 (k := 1) (f1 := (27, [(2, .inl (nI (v + 1))), (3, .inl (nI (sz v))), (0, .inr (.inr (some 99))), (1, .inr (.inr (some m)))], [], Q17)) (C := []) rfl trivial ?_
        exact mw_sub (by simp) (iha (v + 1, Q17) ⟨u17, ht17, (show uq F268a U (ud m Q17) from by rw [d17]; exact ((((((zza.T (fun q hq => by first | exact ax_ne (in1_ne rfl hq) | exact ap_ne (in1_ne rfl hq) | exact fu_ne _ _ (in1_ne rfl hq))).A rfl).I rfl).A rfl).I rfl).I rfl)), (show (v + 1) ≤ n from (by omega)), (show (ud m Q17).2.1 99 4 = nI (pcn sz (v + 1)) from by rw [d17]; exact (by rw [pcn_up hbg]; rfl)), (show (ud m Q17).2.1 99 10 = nI (sm (pfz sz n) 0 (pcn sz (v + 1))) from by rw [d17]; exact (by rw [pcn_up hbg]; show nI (sm (pfz sz n) 0 (pcn sz v) + sz v) = nI (sm (pfz sz n) 0 (pcn sz v) + (pfz sz n) (0 + pcn sz v)); rw [Nat.zero_add, pfz_at (by omega) hbg])), (show ∀ k, k < pcn sz (v + 1) → ((ud m Q17).2.2.1 99 5).2 k = nI (pfz sz n k) ∧ ((ud m Q17).2.2.1 99 7).2 k = nI (sm (pfz sz n) 0 k) from by rw [d17]; exact (by rw [pcn_up hbg]; intro k hk; refine ⟨?_, ?_⟩; (focus (show (if k = pcn sz v then nI (sz v) else (Va.2.2.1 99 5).2 k) = _; by_cases y : k = pcn sz v; (focus (rw [if_pos y, y, pfz_at (by omega) hbg])); (rw [if_neg y]; exact (hA k (by omega)).1))); (show (if k = pcn sz v then nI (sm (pfz sz n) 0 (pcn sz v)) else (Va.2.2.1 99 7).2 k) = _; by_cases y : k = pcn sz v; (focus (rw [if_pos y, y])); (rw [if_neg y]; exact (hA k (by omega)).2)))), (show ((ud m Q17).1 15).1 = n from by rw [d17]; exact (ax_n.trans ht1)), (show ∀ i c, c ≠ 2 → ((ud m Q17).1 15).2 i c = (U.1 15).2 i c from by rw [d17]; exact (fun i c hc => (ax_c (fun _ _ => hc)).trans (ht2 i c hc))), (show ∀ w, w < (v + 1) → ((ud m Q17).1 15).2 w 2 = if 1 < sz w then nI (pcn sz w) else -1 from by rw [d17]; exact (fun w hw => by by_cases y : w = v; (focus (rw [y, if_pos hbg]; exact ax_hit (by omega) (by decide) (by omega))); (exact (ax_c (fun _ z => absurd (z.trans (nI_clamp (by omega))) y)).trans (ht3 w (by omega))))), (show ∀ w, (v + 1) ≤ w → w < n → ((ud m Q17).1 15).2 w 2 = -1 from by rw [d17]; exact (fun w w1 w2 => (ax_c (fun _ z => absurd (z.trans (nI_clamp (by omega))) (by omega))).trans (ht4 w (by omega) w2))), (show ∀ k, k < 32 → ¬ mb ((ud m Q17).2.1 99 9) k = 0 → ∃ w, w < (v + 1) ∧ 1 < sz w ∧ pcn sz w = k ∧ ¬ (U.1 3).2 (vr w) 1 = 2 from by rw [d17]; exact (fun k hk y => by rcases (mb_or _ (pcn sz v) k (by omega) hk).mp (show ¬ mb (Va.2.1 99 9 ||| ((1 : Int32) <<< (nI (pcn sz v) &&& 31))) k = 0 from y) with y | y; (focus (obtain ⟨w, w1, w2⟩ := hrg k hk y; exact ⟨w, by omega, w2⟩)); (exact ⟨v, Nat.lt_succ_self _, hbg, y.symm, hty⟩)))⟩ (by show n - (v + 1) < n - v; omega))
    · -- 173: not (1 : Int32) < (nI (sz v))
      have nh3 : ¬ 1 < (sz v) := fun z => h3 (show nI 1 < nI (sz v) from (nI_ltI (by omega) (by omega)).mpr z)
      have hsm : ¬ 1 < sz v := fun z => h3 ((nI_ltI (a := 1) (by decide) (by have := (hsz v (by omega)).2; omega)).mpr z)
      refine mw_go mu_g268 (k := 1) (f1 := (176, [(2, .inl ((nI v) + 1)), (3, .inl (nI (sz v))), (0, .inr (.inr (some 99))), (1, .inr (.inr (some m)))], [], Hsa)) (C := []) rfl trivial ?_
      rw [(show ((nI v) + 1) = (nI (v + 1)) from (nI_add v 1))]
      refine mw_go mu_g268 (k := 1) (f1 := (27, [(2, .inl (nI (v + 1))), (3, .inl (nI (sz v))), (0, .inr (.inr (some 99))), (1, .inr (.inr (some m)))], [], Hsa)) (C := []) rfl trivial ?_
      exact mw_sub (by simp) (iha (v + 1, Hsa) ⟨ua, hta, (show uq F268a U (ud m Hsa) from by rw [da]; exact zza), (show (v + 1) ≤ n from (by omega)), (show (ud m Hsa).2.1 99 4 = nI (pcn sz (v + 1)) from by rw [da]; exact (by rw [pcn_same hsm]; exact hx4)), (show (ud m Hsa).2.1 99 10 = nI (sm (pfz sz n) 0 (pcn sz (v + 1))) from by rw [da]; exact (by rw [pcn_same hsm]; exact hx10)), (show ∀ k, k < pcn sz (v + 1) → ((ud m Hsa).2.2.1 99 5).2 k = nI (pfz sz n k) ∧ ((ud m Hsa).2.2.1 99 7).2 k = nI (sm (pfz sz n) 0 k) from by rw [da]; exact (by rw [pcn_same hsm]; exact hA)), (show ((ud m Hsa).1 15).1 = n from by rw [da]; exact ht1), (show ∀ i c, c ≠ 2 → ((ud m Hsa).1 15).2 i c = (U.1 15).2 i c from by rw [da]; exact ht2), (show ∀ w, w < (v + 1) → ((ud m Hsa).1 15).2 w 2 = if 1 < sz w then nI (pcn sz w) else -1 from by rw [da]; exact (fun w hw => by by_cases y : w = v; (focus (rw [y, if_neg hsm]; exact ht4 v (Nat.le_refl _) (by omega))); (exact ht3 w (by omega)))), (show ∀ w, (v + 1) ≤ w → w < n → ((ud m Hsa).1 15).2 w 2 = -1 from by rw [da]; exact (fun w w1 w2 => ht4 w (by omega) w2)), (show ∀ k, k < 32 → ¬ mb ((ud m Hsa).2.1 99 9) k = 0 → ∃ w, w < (v + 1) ∧ 1 < sz w ∧ pcn sz w = k ∧ ¬ (U.1 3).2 (vr w) 1 = 2 from by rw [da]; exact (fun k hk y => by obtain ⟨w, w1, w2⟩ := hrg k hk y; exact ⟨w, by omega, w2⟩))⟩ (by show n - (v + 1) < n - v; omega))
  · -- 179: not (nI v) < (nI n)
    have nh1 : ¬ v < n := fun z => h1 (show nI v < nI n from (nI_ltI (by omega) (by omega)).mpr z)
    obtain rfl : v = n := by omega
    exact mw_sub (by simp) (hΦ Hsa ua hta (by rw [da]; exact zza) (by rw [da]; exact ht1) (by rw [da]; exact ht2) (by rw [da]; exact ht3) (by rw [da]; exact hx4) (by rw [da]; exact hx10) (by rw [da]; exact hA) (by rw [da]; exact hrg))
def F268b : Uf := ⟨[], [], [(99, 8)], [], [], false⟩

theorem sp_loopB {Φ : mu_R → Prop} (h : um m H) (e : ud m H = U) (hmo : U.2.2.2.1 99 0 = some m) (hn : (U.1 15).1 = n) (hnb : n ≤ 67108864) (hsz : ∀ w, w < n → sz w ≤ 16384) (hvr : ∀ w, w < n → (U.1 15).2 w 0 = nI (vr w) ∧ vr w < 2147483648) (hc2 : ∀ w, w < n → (U.1 15).2 w 2 = if 1 < sz w then nI (pcn sz w) else -1) (hA : ∀ k, k < pcn sz n → (U.2.2.1 99 5).2 k = nI (pfz sz n k) ∧ (U.2.2.1 99 7).2 k = nI (sm (pfz sz n) 0 k)) (hP14 : pcn sz n ≤ 14) (hlen : sm (pfz sz n) 0 (pcn sz n) ≤ (U.2.2.1 99 8).1) (h8 : (U.2.2.1 99 8).1 ≤ 16777216) (hΦ : ∀ H1, um m H1 → ur m C H H1 → uq F268b U (ud m H1) → (∀ u, u < n → 1 < sz u → ∀ q, q < sz u → ((ud m H1).2.2.1 99 8).2 (sm (pfz sz n) 0 (pcn sz u) + q) = wor U.1 (vr u) q) → mu_W (mu_D (d + 4)) mu_m268 (245, [(2, .inl (nI n)), (0, .inr (.inr (some 99))), (1, .inr (.inr (some m)))], [], H1) Φ) : mu_W (mu_D (d + 4)) mu_m268 (197, [(2, .inl (0 : Int32)), (0, .inr (.inr (some 99))), (1, .inr (.inr (some m)))], [], H) Φ := by
  show mu_W _ _ (197, [(2, .inl (nI 0)), (0, .inr (.inr (some 99))), (1, .inr (.inr (some m)))], [], H) _
  refine mw_sub (L' := [(2, .inl (nI 0)), (0, .inr (.inr (some 99))), (1, .inr (.inr (some m)))]) (by simp) ?_
  refine mw_down (α := Nat × mu_H) (fun zs => (197, [(2, .inl (nI zs.1)), (0, .inr (.inr (some 99))), (1, .inr (.inr (some m)))], [], zs.2)) (fun zs => n - zs.1) (fun zs => um m zs.2 ∧ ur m C H zs.2 ∧ (uq F268b U (ud m zs.2)) ∧ (zs.1 ≤ n) ∧ (∀ u, u < zs.1 → 1 < sz u → ∀ q, q < sz u → ((ud m zs.2).2.2.1 99 8).2 (sm (pfz sz n) 0 (pcn sz u) + q) = wor U.1 (vr u) q)) (fun zs hzb ihb => ?_) (0, H) ⟨h, (ur.refl m C H), (show uq F268b U (ud m H) from by rw [e]; exact uq.refl _ _), (show 0 ≤ n from (Nat.zero_le _)), (show ∀ u, u < 0 → 1 < sz u → ∀ q, q < sz u → ((ud m H).2.2.1 99 8).2 (sm (pfz sz n) 0 (pcn sz u) + q) = wor U.1 (vr u) q from by rw [e]; exact (fun u hu => absurd hu (Nat.not_lt_zero u)))⟩
  obtain ⟨w, Hsb⟩ := zs
  obtain ⟨ub, htb, db, hwn, hwo⟩ := hzb
  have ub : um m Hsb := ub
  have htb : ur m C H Hsb := htb
  have zzb : uq F268b U (ud m Hsb) := db
  have hwn : w ≤ n := hwn
  have hwo : ∀ u, u < w → 1 < sz u → ∀ q, q < sz u → ((ud m Hsb).2.2.1 99 8).2 (sm (pfz sz n) 0 (pcn sz u) + q) = wor U.1 (vr u) q := hwo
  obtain ⟨Vb, db⟩ : ∃ V, ud m Hsb = V := ⟨_, rfl⟩
  rw [db] at zzb hwo
  show mu_W _ _ (197, [(2, .inl (nI w)), (0, .inr (.inr (some 99))), (1, .inr (.inr (some m)))], [], Hsb) _
  refine mw_go mu_g268 (k := 3) (f1 := (202, [(2, .inl (nI w)), (0, .inr (.inr (some 99))), (1, .inr (.inr (some m)))], [.inr (.inr (mu_r Hsb 99 0)), .inl (nI w)], Hsb)) (C := [mu_is Hsb (some 99) 13]) rfl (show mu_is Hsb (some 99) 13 from (ub.1.1.is rfl)) ?_
  rw [(show mu_r Hsb 99 0 = (some m) from (ud_q (U := Vb) (m := m) (P := 99) (j := 0) db rfl).trans ((zzb.r 99 0 rfl).trans hmo))]
  refine mw_go mu_g268 (k := 1) (f1 := (205, [(2, .inl (nI w)), (0, .inr (.inr (some 99))), (1, .inr (.inr (some m)))], [.inr (.inr (mu_r Hsb m 15)), .inl (nI w)], Hsb)) (C := [mu_is Hsb (some m) 6]) rfl (show mu_is Hsb (some m) 6 from (show mu_is Hsb (some m) 6 from gi_im ub.1.1 ub.2)) ?_
  rw [(show mu_r Hsb m 15 = some (m + 31) from (gi_mr ub.1.1 ub.2 (j := 15) (by decide)).trans (congrArg some (by omega)))]
  refine mw_go mu_g268 (k := 1) (f1 := (208, [(2, .inl (nI w)), (0, .inr (.inr (some 99))), (1, .inr (.inr (some m)))], [.inl (mu_i Hsb (m + 31) 2), .inl (nI w)], Hsb)) (C := [mu_is Hsb (some (m + 31)) 10]) rfl (show mu_is Hsb (some (m + 31)) 10 from ((ub.1.1.w (md_w15 ub.2)).1)) ?_
  rw [(show mu_i Hsb (m + 31) 2 = (nI (U.1 15).1) from (ub.size db (j := 15) (by decide) rfl).trans (congrArg (fun z => nI z.1) (show Vb.1 15 = (U.1 15) from (zzb.t 15 rfl))))]
  rw [show (nI (U.1 15).1) = nI n from congrArg nI hn]
  refine mw_if (P := (nI w) < (nI n)) (a := 211) (b := 245) (fun _ => rfl) trivial (fun h1 => ?_) (fun h1 => ?_)
  · -- 211: (nI w) < (nI n)
    have nh1 : w < n := (nI_ltI (by omega) (by omega)).mp (show nI w < nI n from h1)
    have hT : Vb.1 = U.1 := funext fun j => zzb.t j rfl
    obtain ⟨hv1, hv2⟩ := hvr w (by omega)
    by_cases hbg : 1 < sz w
    · -- it has a place
      have hpl := pcn_lt hbg (show w < n by omega)
      have hs2 := sm_step2 (pfz sz n) hpl
      rw [pfz_at (show w < n by omega) hbg] at hs2
      have hszw := (hsz w (by omega))
      have hwor : ∀ i, wor Vb.1 (vr w) i = wor U.1 (vr w) i := fun i => by rw [hT]
      refine mw_go mu_g268 (k := 3) (f1 := (216, [(2, .inl (nI w)), (0, .inr (.inr (some 99))), (1, .inr (.inr (some m)))], [.inr (.inr (mu_r Hsb 99 0)), .inr (.inr (some 99))], Hsb)) (C := [mu_is Hsb (some 99) 13]) rfl (show mu_is Hsb (some 99) 13 from (ub.1.1.is rfl)) ?_
      rw [(show mu_r Hsb 99 0 = (some m) from (ud_q (U := Vb) (m := m) (P := 99) (j := 0) db rfl).trans ((zzb.r 99 0 rfl).trans hmo))]
      refine mw_go mu_g268 (k := 1) (f1 := (219, [(2, .inl (nI w)), (0, .inr (.inr (some 99))), (1, .inr (.inr (some m)))], [.inr (.inr (mu_r Hsb m 15)), .inr (.inr (some 99))], Hsb)) (C := [mu_is Hsb (some m) 6]) rfl (show mu_is Hsb (some m) 6 from (show mu_is Hsb (some m) 6 from gi_im ub.1.1 ub.2)) ?_
      rw [(show mu_r Hsb m 15 = some (m + 31) from (gi_mr ub.1.1 ub.2 (j := 15) (by decide)).trans (congrArg some (by omega)))]
      refine mw_go mu_g268 (k := 2) (f1 := (221, [(2, .inl (nI w)), (0, .inr (.inr (some 99))), (1, .inr (.inr (some m)))], [.inl (0 : Int32), .inl (nI w), .inr (.inr (some (m + 31))), .inr (.inr (some 99))], Hsb)) (C := []) rfl trivial ?_
      refine mw_cIe (fun _ => rfl) (show mu_is Hsb (some (m + 31)) 10 from ((ub.1.1.w (md_w15 ub.2)).1)) (ub.getr (d := (d + 3)) db (j := 15) (by decide) rfl (nI w) (c := 0) (by decide)) ?_
      rw [show (tget (Vb.1 15) (nI w) 0) = (nI (vr w)) from ((congrArg (fun z => tget z (nI w) 0) (show Vb.1 15 = (U.1 15) from (zzb.t 15 rfl))).trans (tget_nI (by first | omega | decide))).trans hv1]
      refine mw_go mu_g268 (k := 2) (f1 := (228, [(2, .inl (nI w)), (0, .inr (.inr (some 99))), (1, .inr (.inr (some m)))], [.inr (.inr (mu_r Hsb 99 0)), .inl (nI (vr w)), .inr (.inr (some 99))], Hsb)) (C := [mu_is Hsb (some 99) 13]) rfl (show mu_is Hsb (some 99) 13 from (ub.1.1.is rfl)) ?_
      rw [(show mu_r Hsb 99 0 = (some m) from (ud_q (U := Vb) (m := m) (P := 99) (j := 0) db rfl).trans ((zzb.r 99 0 rfl).trans hmo))]
      refine mw_go mu_g268 (k := 1) (f1 := (231, [(2, .inl (nI w)), (0, .inr (.inr (some 99))), (1, .inr (.inr (some m)))], [.inr (.inr (mu_r Hsb m 15)), .inl (nI (vr w)), .inr (.inr (some 99))], Hsb)) (C := [mu_is Hsb (some m) 6]) rfl (show mu_is Hsb (some m) 6 from (show mu_is Hsb (some m) 6 from gi_im ub.1.1 ub.2)) ?_
      rw [(show mu_r Hsb m 15 = some (m + 31) from (gi_mr ub.1.1 ub.2 (j := 15) (by decide)).trans (congrArg some (by omega)))]
      refine mw_go mu_g268 (k := 2) (f1 := (233, [(2, .inl (nI w)), (0, .inr (.inr (some 99))), (1, .inr (.inr (some m)))], [.inl (2 : Int32), .inl (nI w), .inr (.inr (some (m + 31))), .inl (nI (vr w)), .inr (.inr (some 99))], Hsb)) (C := []) rfl trivial ?_
      refine mw_cIe (fun _ => rfl) (show mu_is Hsb (some (m + 31)) 10 from ((ub.1.1.w (md_w15 ub.2)).1)) (ub.getr (d := (d + 3)) db (j := 15) (by decide) rfl (nI w) (c := 2) (by decide)) ?_
      rw [show (tget (Vb.1 15) (nI w) 2) = (nI (pcn sz w)) from ((congrArg (fun z => tget z (nI w) 2) (show Vb.1 15 = (U.1 15) from (zzb.t 15 rfl))).trans (tget_nI (by first | omega | decide))).trans ((hc2 w (by omega)).trans (if_pos hbg))]
      refine mw_cV (fun _ => rfl) (show mu_is Hsb (some 99) 13 from (ub.1.1.is rfl)) (sp_keepW (d := (d + 1)) (C := C) (k := pcn sz w) (n := sz w) (a := sm (pfz sz n) 0 (pcn sz w)) (v := vr w) ub db ((zzb.r 99 0 rfl).trans hmo) (by omega) (by rw [zzb.a 99 5 rfl, (hA _ hpl).1, pfz_at (show w < n by omega) hbg]) hszw (by rw [zzb.a 99 7 rfl]; exact (hA _ hpl).2) (by rw [zzb.n 99 8 rfl]; omega) (by rw [zzb.n 99 8 rfl]; exact h8) hv2) (fun Q4 q4 => ?_)
      obtain ⟨u4, r4, d4⟩ := q4
      have ht4 : ur m C H Q4 := htb.trans r4
      refine mw_go mu_g268 (k := 1) (f1 := (242, [(2, .inl ((nI w) + 1)), (0, .inr (.inr (some 99))), (1, .inr (.inr (some m)))], [], Q4)) (C := []) rfl trivial ?_
      rw [(show ((nI w) + 1) = (nI (w + 1)) from (nI_add w 1))]
      refine mw_go mu_g268 (k := 1) (f1 := (197, [(2, .inl (nI (w + 1))), (0, .inr (.inr (some 99))), (1, .inr (.inr (some m)))], [], Q4)) (C := []) rfl trivial ?_
      exact mw_sub (by simp) (ihb (w + 1, Q4) ⟨u4, ht4, (show uq F268b U (ud m Q4) from by rw [d4]; exact (zzb.F rfl)), (show (w + 1) ≤ n from (by omega)), (show ∀ u, u < (w + 1) → 1 < sz u → ∀ q, q < sz u → ((ud m Q4).2.2.1 99 8).2 (sm (pfz sz n) 0 (pcn sz u) + q) = wor U.1 (vr u) q from by rw [d4]; exact (fun u hu u1 q hq => by show (if sm (pfz sz n) 0 (pcn sz w) ≤ sm (pfz sz n) 0 (pcn sz u) + q ∧ sm (pfz sz n) 0 (pcn sz u) + q < sm (pfz sz n) 0 (pcn sz w) + sz w then wor Vb.1 (vr w) (sm (pfz sz n) 0 (pcn sz u) + q - sm (pfz sz n) 0 (pcn sz w)) else (Vb.2.2.1 99 8).2 (sm (pfz sz n) 0 (pcn sz u) + q)) = _; by_cases y : u = w; (focus (subst y; rw [if_pos ⟨Nat.le_add_right _ _, by omega⟩, Nat.add_sub_cancel_left, hwor])); (have hl := pcn_lt u1 (show u < w by omega); have hs := sm_step2 (pfz sz n) hl; rw [pfz_at (show u < n by omega) u1] at hs; rw [if_neg (by omega)]; exact hwo u (by omega) u1 q hq)))⟩ (by show n - (w + 1) < n - w; omega))
    · -- it has none
      have hsm : ¬ 1 < sz w := hbg
      refine mw_go mu_g268 (k := 3) (f1 := (216, [(2, .inl (nI w)), (0, .inr (.inr (some 99))), (1, .inr (.inr (some m)))], [.inr (.inr (mu_r Hsb 99 0)), .inr (.inr (some 99))], Hsb)) (C := [mu_is Hsb (some 99) 13]) rfl (show mu_is Hsb (some 99) 13 from (ub.1.1.is rfl)) ?_
      rw [(show mu_r Hsb 99 0 = (some m) from (ud_q (U := Vb) (m := m) (P := 99) (j := 0) db rfl).trans ((zzb.r 99 0 rfl).trans hmo))]
      refine mw_go mu_g268 (k := 1) (f1 := (219, [(2, .inl (nI w)), (0, .inr (.inr (some 99))), (1, .inr (.inr (some m)))], [.inr (.inr (mu_r Hsb m 15)), .inr (.inr (some 99))], Hsb)) (C := [mu_is Hsb (some m) 6]) rfl (show mu_is Hsb (some m) 6 from (show mu_is Hsb (some m) 6 from gi_im ub.1.1 ub.2)) ?_
      rw [(show mu_r Hsb m 15 = some (m + 31) from (gi_mr ub.1.1 ub.2 (j := 15) (by decide)).trans (congrArg some (by omega)))]
      refine mw_go mu_g268 (k := 2) (f1 := (221, [(2, .inl (nI w)), (0, .inr (.inr (some 99))), (1, .inr (.inr (some m)))], [.inl (0 : Int32), .inl (nI w), .inr (.inr (some (m + 31))), .inr (.inr (some 99))], Hsb)) (C := []) rfl trivial ?_
      refine mw_cIe (fun _ => rfl) (show mu_is Hsb (some (m + 31)) 10 from ((ub.1.1.w (md_w15 ub.2)).1)) (ub.getr (d := (d + 3)) db (j := 15) (by decide) rfl (nI w) (c := 0) (by decide)) ?_
      rw [show (tget (Vb.1 15) (nI w) 0) = (nI (vr w)) from ((congrArg (fun z => tget z (nI w) 0) (show Vb.1 15 = (U.1 15) from (zzb.t 15 rfl))).trans (tget_nI (by first | omega | decide))).trans hv1]
      refine mw_go mu_g268 (k := 2) (f1 := (228, [(2, .inl (nI w)), (0, .inr (.inr (some 99))), (1, .inr (.inr (some m)))], [.inr (.inr (mu_r Hsb 99 0)), .inl (nI (vr w)), .inr (.inr (some 99))], Hsb)) (C := [mu_is Hsb (some 99) 13]) rfl (show mu_is Hsb (some 99) 13 from (ub.1.1.is rfl)) ?_
      rw [(show mu_r Hsb 99 0 = (some m) from (ud_q (U := Vb) (m := m) (P := 99) (j := 0) db rfl).trans ((zzb.r 99 0 rfl).trans hmo))]
      refine mw_go mu_g268 (k := 1) (f1 := (231, [(2, .inl (nI w)), (0, .inr (.inr (some 99))), (1, .inr (.inr (some m)))], [.inr (.inr (mu_r Hsb m 15)), .inl (nI (vr w)), .inr (.inr (some 99))], Hsb)) (C := [mu_is Hsb (some m) 6]) rfl (show mu_is Hsb (some m) 6 from (show mu_is Hsb (some m) 6 from gi_im ub.1.1 ub.2)) ?_
      rw [(show mu_r Hsb m 15 = some (m + 31) from (gi_mr ub.1.1 ub.2 (j := 15) (by decide)).trans (congrArg some (by omega)))]
      refine mw_go mu_g268 (k := 2) (f1 := (233, [(2, .inl (nI w)), (0, .inr (.inr (some 99))), (1, .inr (.inr (some m)))], [.inl (2 : Int32), .inl (nI w), .inr (.inr (some (m + 31))), .inl (nI (vr w)), .inr (.inr (some 99))], Hsb)) (C := []) rfl trivial ?_
      refine mw_cIe (fun _ => rfl) (show mu_is Hsb (some (m + 31)) 10 from ((ub.1.1.w (md_w15 ub.2)).1)) (ub.getr (d := (d + 3)) db (j := 15) (by decide) rfl (nI w) (c := 2) (by decide)) ?_
      rw [show (tget (Vb.1 15) (nI w) 2) = (-1 : Int32) from ((congrArg (fun z => tget z (nI w) 2) (show Vb.1 15 = (U.1 15) from (zzb.t 15 rfl))).trans (tget_nI (by first | omega | decide))).trans ((hc2 w (by omega)).trans (if_neg hbg))]
      refine mw_cV (fun _ => rfl) (show mu_is Hsb (some 99) 13 from (ub.1.1.is rfl)) ((sp_keepN (d := (d + 1)) ub db (nI (vr w))).imp (fun H1 q => show Hsb = H1 from q.symm)) (fun H7 q7 => ?_)
      obtain rfl := q7
      refine mw_go mu_g268 (k := 1) (f1 := (242, [(2, .inl ((nI w) + 1)), (0, .inr (.inr (some 99))), (1, .inr (.inr (some m)))], [], Hsb)) (C := []) rfl trivial ?_
      rw [(show ((nI w) + 1) = (nI (w + 1)) from (nI_add w 1))]
      refine mw_go mu_g268 (k := 1) (f1 := (197, [(2, .inl (nI (w + 1))), (0, .inr (.inr (some 99))), (1, .inr (.inr (some m)))], [], Hsb)) (C := []) rfl trivial ?_
      exact mw_sub (by simp) (ihb (w + 1, Hsb) ⟨ub, htb, (show uq F268b U (ud m Hsb) from by rw [db]; exact zzb), (show (w + 1) ≤ n from (by omega)), (show ∀ u, u < (w + 1) → 1 < sz u → ∀ q, q < sz u → ((ud m Hsb).2.2.1 99 8).2 (sm (pfz sz n) 0 (pcn sz u) + q) = wor U.1 (vr u) q from by rw [db]; exact (fun u hu u1 => by by_cases y : u = w; (focus (rw [y] at u1; exact absurd u1 hsm)); (exact hwo u (by omega) u1)))⟩ (by show n - (w + 1) < n - w; omega))
  · -- 245: not (nI w) < (nI n)
    have nh1 : ¬ w < n := fun z => h1 (show nI w < nI n from (nI_ltI (by omega) (by omega)).mpr z)
    obtain rfl : w = n := by omega
    exact mw_sub (by simp) (hΦ Hsb ub htb (by rw [db]; exact zzb) (by rw [db]; exact hwo))
/-- how many VALUES a VARIABLE has -/
def szo (X : Ts) (w : Nat) : Nat := ((X 15).2 w 1).toNatClampNeg
theorem szo_of {W : Ts} (h : sm (bz W) 0 N ≤ 14) (hv : v < N) : (W 15).2 v 1 = nI (szo W v) ∧ 1 ≤ szo W v ∧ szo W v ≤ 2 ^ bz W v ∧ szo W v ≤ 16384 ∧ (2 ≤ szo W v → 1 ≤ bz W v) := by
  obtain ⟨n, n1, n2, n3, n4, n5⟩ := bz_size h hv
  have e : szo W v = n := by unfold szo; rw [n2]; exact nI_clamp (by omega)
  rw [e]
  exact ⟨n2, n1, n3, n4, n5⟩
theorem szs_of {W : Ts} (h : sm (bz W) 0 N ≤ 14) : ∀ v, v ≤ N → szs (pfz (szo W) N) (pcn (szo W) v) (sm (bz W) 0 v)
  | 0, _ => szs.zero
  | v + 1, hv => by
    have ih := szs_of h v (by omega)
    obtain ⟨-, z2, z3, z4, z5⟩ := szo_of h (show v < N by omega)
    have e : sm (bz W) 0 (v + 1) = sm (bz W) 0 v + bz W v := by show sm (bz W) 0 v + bz W (0 + v) = _; rw [Nat.zero_add]
    rw [e]
    by_cases c : 1 < szo W v
    · rw [pcn_up c]
      exact ih.put (n := szo W v) (c := bz W v) (by omega) z3 (z5 (by omega)) (pfz_at (by omega) c)
    · rw [pcn_same c]
      exact ih.more (Nat.le_add_right _ _)
theorem in2_no {l : List (Nat × Nat)} {p i : Nat} (h : ∀ x ∈ l, ¬ (x.1 = p ∧ x.2 = i)) : in2 l p i = false := by
  cases e : in2 l p i with
  | false => rfl
  | true =>
    obtain ⟨t, ht, hx⟩ := List.any_eq_true.mp e
    rw [Bool.and_eq_true] at hx
    have e1 := Nat.eq_of_beq_eq_true hx.1
    have e2 := Nat.eq_of_beq_eq_true hx.2
    exact absurd ⟨by omega, by omega⟩ (h t ht)
theorem in1_no {l : List Nat} {p : Nat} (h : ∀ x ∈ l, ¬ x = p) : in1 l p = false := by
  cases e : in1 l p with
  | false => rfl
  | true =>
    obtain ⟨t, ht, hx⟩ := List.any_eq_true.mp e
    have e1 := Nat.eq_of_beq_eq_true hx
    exact absurd (by omega) (h t ht)
theorem B1_of {P : Nat} {f : Nat → Nat} (hs : szs f P (sm (bz U.1) 0 n)) (hq : uq F268a U V) (t1 : (V.1 15).1 = (U.1 15).1) (t2 : ∀ i c, c ≠ 2 → (V.1 15).2 i c = (U.1 15).2 i c) (t3 : ∀ w, w < (U.1 15).1 → (V.1 15).2 w 2 = if 1 < sz w then nI (pcn sz w) else -1) (hx4 : V.2.1 99 4 = nI P) (hx10 : V.2.1 99 10 = nI (sm f 0 P)) (hA : ∀ k, k < P → (V.2.2.1 99 5).2 k = nI (f k) ∧ (V.2.2.1 99 7).2 k = nI (sm f 0 k)) (hP : P = pcn sz (U.1 15).1 := by rfl) : B1 U V n P f := by
  refine ⟨⟨fun j hj => hq.t j (in1_no (fun x hx => ?_)), t1, t2, fun w hw => ?_⟩, ⟨hx4, hx10, hA⟩, hs, ?_⟩
  · have hx2 : x = 15 := List.mem_singleton.mp hx
    omega
  · rw [t3 w hw]
    by_cases c : 1 < sz w
    · rw [if_pos c]
      exact Or.inr ⟨pcn sz w, by rw [hP]; exact pcn_lt c hw, rfl⟩
    · rw [if_neg c]
      exact Or.inl rfl
  · refine ⟨funext fun p => funext fun i => hq.r p i rfl, fun p i hp => hq.a p i (in2_no (fun x hx => ?_)), fun p i hp => hq.i p i (in2_no (fun x hx => ?_)), Prod.ext (funext fun p => hq.l p rfl) (hq.2.2.2.2.2 rfl), hq.n 99 5 rfl, hq.n 99 7 rfl⟩
    · have hx2 : x ∈ [(99, 5), (99, 7)] := hx
      simp only [List.mem_cons, List.not_mem_nil, or_false] at hx2
      rcases hx2 with e | e <;> (subst e; intro y; exact hp ⟨y.1.symm, by first | exact Or.inl y.2.symm | exact Or.inr y.2.symm⟩)
    · have hx2 : x ∈ [(99, 4), (99, 9), (99, 10)] := hx
      simp only [List.mem_cons, List.not_mem_nil, or_false] at hx2
      rcases hx2 with e | e | e <;> (subst e; intro y; exact hp ⟨y.1.symm, by first | exact Or.inl y.2.symm | exact Or.inr (Or.inl y.2.symm) | exact Or.inr (Or.inr y.2.symm)⟩)
theorem uq_98 (hq : uq F268b U V) : V = (U.1, U.2.1, f2 U.2.2.1 99 8 ((U.2.2.1 99 8).1, (V.2.2.1 99 8).2), U.2.2.2) := by
  have e1 : V.1 = U.1 := funext fun j => hq.t j rfl
  have e2 : V.2.1 = U.2.1 := funext fun p => funext fun i => hq.i p i rfl
  have e3 : V.2.2.1 = f2 U.2.2.1 99 8 ((U.2.2.1 99 8).1, (V.2.2.1 99 8).2) := by
    funext p i
    unfold f2
    by_cases c : p = 99 ∧ i = 8
    · rw [if_pos c, c.1, c.2]
      exact Prod.ext (hq.n 99 8 rfl) rfl
    · rw [if_neg c]
      refine hq.a p i (in2_no (fun x hx => ?_))
      have hx2 : x = (99, 8) := List.mem_singleton.mp hx
      subst hx2
      intro y
      exact c ⟨y.1.symm, y.2.symm⟩
  have e4 : V.2.2.2 = U.2.2.2 := Prod.ext (funext fun p => funext fun i => hq.r p i rfl) (Prod.ext (funext fun p => hq.l p rfl) (hq.2.2.2.2.2 rfl))
  calc V = (V.1, V.2.1, V.2.2.1, V.2.2.2) := rfl
    _ = _ := by rw [e1, e2, ← e3, e4]
theorem wor_eq {X X' : Ts} {v q : Nat} (h3 : X 3 = X' 3) (h4 : X 4 = X' 4) : wor X v q = wor X' v q := by
  unfold wor
  rw [h3, h4]
variable {H1 H2 : mu_H}
theorem sp_begin2 {vr : Nat → Nat} (h : um m H) (e : ud m H = U) (hsum : sm (bz U.1) 0 (U.1 15).1 ≤ 14) (h15 : (U.1 15).1 ≤ 67108864) (hcol : ∀ w, w < (U.1 15).1 → (U.1 15).2 w 2 = -1) (hvr : ∀ w, w < (U.1 15).1 → (U.1 15).2 w 0 = nI (vr w) ∧ vr w < 2147483648) (h8 : lwh 1 (U.2.2.1 99 8).1) (h18 : lwh 1 (U.2.2.1 99 18).1) : mu_TV (mu_D (d + 5)) 268 [.inr (.inr (some 99)), .inr (.inr (some m))] H (fun H1 => um m H1 ∧ ur m C H H1 ∧ SG m U (ud m H1) (pcn (szo U.1) (U.1 15).1) (pfz (szo U.1) (U.1 15).1) ∧ SGP U (ud m H1) (szo U.1) vr (U.1 15).1) := by
  have hm41 : m < 169 := by rcases h.2 with z | z <;> omega
  refine mu_meth (M := mu_m268) rfl rfl ?_
  refine mw_ht (mu_fn_of (show [0, 1].Nodup by decide)) ?_
  refine mw_go mu_g268 (k := 3) (f1 := (5, [(0, .inr (.inr (some 99))), (1, .inr (.inr (some m)))], [], mu_sr H 99 0 (some m))) (C := [mu_is H (some 99) 13]) rfl (show mu_is H (some 99) 13 from (h.1.1.is rfl)) ?_
  obtain ⟨u1, r1, d1⟩ := h.putR (C := C) (P := 99) (k := 0) (v := some m) rfl rfl rfl (by decide) (fun q hq => by cases hq; exact Or.inl hm41)
  rw [e] at d1
  generalize mu_sr H 99 0 (some m) = Q1 at u1 r1 d1 ⊢
  have D1 : ud m Q1 = (upR U 99 0 (some m)) := d1
  refine mw_go mu_g268 (k := 3) (f1 := (10, [(0, .inr (.inr (some 99))), (1, .inr (.inr (some m)))], [], mu_si Q1 99 13 (0 : Int32))) (C := [mu_is Q1 (some 99) 13, (0 : Int32) = 0 ∨ (0 : Int32) = 1]) rfl (show (mu_is Q1 (some 99) 13) ∧ ((0 : Int32) = 0 ∨ (0 : Int32) = 1) from ⟨(u1.1.1.is rfl), Or.inl rfl⟩) ?_
  obtain ⟨u2, r2, d2⟩ := u1.putI (C := C) (P := 99) (k := 13) (v := (0 : Int32)) rfl
  rw [D1] at d2
  generalize mu_si Q1 99 13 (0 : Int32) = Q2 at u2 r2 d2 ⊢
  have D2 : ud m Q2 = (upI (upR U 99 0 (some m)) 99 13 (0 : Int32)) := d2
  refine mw_go mu_g268 (k := 3) (f1 := (15, [(0, .inr (.inr (some 99))), (1, .inr (.inr (some m)))], [], mu_si Q2 99 4 (0 : Int32))) (C := [mu_is Q2 (some 99) 13]) rfl (show mu_is Q2 (some 99) 13 from (u2.1.1.is rfl)) ?_
  obtain ⟨u3, r3, d3⟩ := u2.putI (C := C) (P := 99) (k := 4) (v := (0 : Int32)) rfl
  rw [D2] at d3
  generalize mu_si Q2 99 4 (0 : Int32) = Q3 at u3 r3 d3 ⊢
  have D3 : ud m Q3 = (upI (upI (upR U 99 0 (some m)) 99 13 (0 : Int32)) 99 4 (0 : Int32)) := d3
  refine mw_go mu_g268 (k := 3) (f1 := (20, [(0, .inr (.inr (some 99))), (1, .inr (.inr (some m)))], [], mu_si Q3 99 10 (0 : Int32))) (C := [mu_is Q3 (some 99) 13]) rfl (show mu_is Q3 (some 99) 13 from (u3.1.1.is rfl)) ?_
  obtain ⟨u4, r4, d4⟩ := u3.putI (C := C) (P := 99) (k := 10) (v := (0 : Int32)) rfl
  rw [D3] at d4
  generalize mu_si Q3 99 10 (0 : Int32) = Q4 at u4 r4 d4 ⊢
  have D4 : ud m Q4 = (upI (upI (upI (upR U 99 0 (some m)) 99 13 (0 : Int32)) 99 4 (0 : Int32)) 99 10 (0 : Int32)) := d4
  refine mw_go mu_g268 (k := 3) (f1 := (25, [(0, .inr (.inr (some 99))), (1, .inr (.inr (some m)))], [], mu_si Q4 99 9 (0 : Int32))) (C := [mu_is Q4 (some 99) 13]) rfl (show mu_is Q4 (some 99) 13 from (u4.1.1.is rfl)) ?_
  obtain ⟨u5, r5, d5⟩ := u4.putI (C := C) (P := 99) (k := 9) (v := (0 : Int32)) rfl
  rw [D4] at d5
  generalize mu_si Q4 99 9 (0 : Int32) = Q5 at u5 r5 d5 ⊢
  have D5 : ud m Q5 = (upI (upI (upI (upI (upR U 99 0 (some m)) 99 13 (0 : Int32)) 99 4 (0 : Int32)) 99 10 (0 : Int32)) 99 9 (0 : Int32)) := d5
  refine mw_go mu_g268 (k := 2) (f1 := (27, [(2, .inl (nI 0)), (0, .inr (.inr (some 99))), (1, .inr (.inr (some m)))], [], Q5)) (C := []) rfl trivial ?_
  have R5 : ur m C H Q5 := (((r1.trans r2).trans r3).trans r4).trans r5
  have hz0 := szs_of hsum (U.1 15).1 (Nat.le_refl _)
  have hz3 := hz0.sum hsum
  refine sp_loopA (C := C) (d := d) (n := (U.1 15).1) (sz := szo U.1) (vr := vr) (U := (upI (upI (upI (upI (upR U 99 0 (some m)) 99 13 (0 : Int32)) 99 4 (0 : Int32)) 99 10 (0 : Int32)) 99 9 (0 : Int32))) u5 D5 rfl rfl h15 (fun w hw => ⟨(szo_of hsum hw).1, (szo_of hsum hw).2.2.2.1⟩) hvr hcol hz3.2.2 hz3.1 rfl rfl rfl (fun Q6 u6 r6 xq gx1 gx2 gx3 gx4 gx5 gx6 gx7 => ?_)
  have hB : B1 (upI (upI (upI (upI (upR U 99 0 (some m)) 99 13 (0 : Int32)) 99 4 (0 : Int32)) 99 10 (0 : Int32)) 99 9 (0 : Int32)) (ud m Q6) (U.1 15).1 (pcn (szo U.1) (U.1 15).1) (pfz (szo U.1) (U.1 15).1) := B1_of hz0 xq gx1 gx2 gx3 gx4 gx5 gx6
  obtain ⟨P, hPe⟩ : ∃ P, P = pcn (szo U.1) (U.1 15).1 := ⟨_, rfl⟩
  obtain ⟨f, hfe⟩ : ∃ f, f = pfz (szo U.1) (U.1 15).1 := ⟨_, rfl⟩
  rw [← hPe] at hB hz3 gx4 gx5 gx6
  rw [← hfe] at hB hz3 gx5 gx6
  obtain ⟨V6, D6⟩ : ∃ V, ud m Q6 = V := ⟨_, rfl⟩
  rw [D6] at hB gx1 gx2 gx3 gx4 gx5 gx6 gx7
  obtain ⟨⟨t1, t2, t3, t4⟩, ⟨p1, p2, p3⟩, hs, ⟨k1, k2, k3, k4, k5, k6⟩⟩ := hB
  obtain ⟨s1, s2, s3⟩ := hs.sum hsum
  have l8 : (V6.2.2.1 99 8).1 = (U.2.2.1 99 8).1 := by rw [k2 99 8 (by decide)]; rfl
  have l18 : (V6.2.2.1 99 18).1 = (U.2.2.1 99 18).1 := by rw [k2 99 18 (by decide)]; rfl
  have hNT : (Prod.fst (upI (upI (upI (upI (upR U 99 0 (some m)) 99 13 (0 : Int32)) 99 4 (0 : Int32)) 99 10 (0 : Int32)) 99 9 (0 : Int32)) 15).1 = (U.1 15).1 := rfl
  show mu_W _ _ (179, [(2, .inl (nI (U.1 15).1)), (0, .inr (.inr (some 99))), (1, .inr (.inr (some m)))], [], Q6) _
  refine mw_go mu_g268 (k := 5) (f1 := (188, [(2, .inl (nI (U.1 15).1)), (0, .inr (.inr (some 99))), (1, .inr (.inr (some m)))], [.inl (mu_i Q6 99 10), .inr (.inr (mu_r Q6 99 8)), .inr (.inr (some 99))], Q6)) (C := [mu_is Q6 (some 99) 13, mu_is Q6 (some 99) 13]) rfl (show (mu_is Q6 (some 99) 13) ∧ (mu_is Q6 (some 99) 13) from ⟨(u6.1.1.is rfl), (u6.1.1.is rfl)⟩) ?_
  rw [show mu_i Q6 99 10 = nI (sm f 0 P) from (ud_i (m := m) (P := 99) (j := 10) D6 rfl).trans p2]
  refine mw_go mu_g268 (k := 1) (f1 := (189, [(2, .inl (nI (U.1 15).1)), (0, .inr (.inr (some 99))), (1, .inr (.inr (some m)))], [.inl (nI 1), .inl (nI (sm f 0 P)), .inr (.inr (mu_r Q6 99 8)), .inr (.inr (some 99))], Q6)) (C := []) rfl trivial ?_
  have w8 : lwh 1 (mu_n Q6 (mu_p (mu_r Q6 99 8))) := by rw [ud_n (m := m) (P := 99) (J := 8) D6 rfl rfl, l8]; exact h8
  refine mw_cA (fun _ => rfl) trivial (fitStates_ok (d := d + 2) (n := sm f 0 P) (e := 1) (u6.1.1.o (p := 99) (j := 8) rfl) s1 (Or.inl rfl) u6.1.1.z w8) (fun x7 F7 q7 => ?_)
  refine mw_go mu_g268 (k := 1) (f1 := (195, [(2, .inl (nI (U.1 15).1)), (0, .inr (.inr (some 99))), (1, .inr (.inr (some m)))], [], mu_sr F7 99 8 x7)) (C := [mu_is F7 (some 99) 13]) rfl (show mu_is F7 (some 99) 13 from fit_is (u6.1.1.is rfl) q7) ?_
  obtain ⟨u7, r7, L7, g7, z7, D7, e7, w7⟩ := u6.fitS (C := C) (J := 8) (n := sm f 0 P) D6 rfl rfl q7 (by rw [l8]; exact h8)
  generalize mu_sr F7 99 8 x7 = Q7 at u7 r7 D7 ⊢
  refine mw_go mu_g268 (k := 2) (f1 := (197, [(2, .inl (nI 0)), (0, .inr (.inr (some 99))), (1, .inr (.inr (some m)))], [], Q7)) (C := []) rfl trivial ?_
  have w7b : L7 ≤ 16777216 := by unfold lwh at w7; omega
  refine sp_loopB (C := C) (d := d) (n := (U.1 15).1) (sz := szo U.1) (vr := vr) (U := (V6.1, V6.2.1, f2 V6.2.2.1 99 8 (L7, g7), f2 V6.2.2.2.1 99 8 z7, V6.2.2.2.2)) u7 D7 (by show V6.2.2.2.1 99 0 = some m; rw [k1]; rfl) gx1 h15 (fun w hw => (szo_of hsum hw).2.2.2.1) (fun w hw => ⟨(gx2 w 0 (by decide)).trans (hvr w hw).1, (hvr w hw).2⟩) gx3 (by rw [← hPe, ← hfe]; exact p3) (by rw [← hPe]; exact s3) (by rw [← hPe, ← hfe]; show sm f 0 P ≤ L7; omega) w7b (fun Q8 u8 r8 hq8 hw8 => ?_)
  rw [← hfe] at hw8
  have D8 := uq_98 hq8
  obtain ⟨g8, hg8⟩ : ∃ g, g = ((ud m Q8).2.2.1 99 8).2 := ⟨_, rfl⟩
  rw [← hg8] at D8 hw8
  show mu_W _ _ (245, [(2, .inl (nI (U.1 15).1)), (0, .inr (.inr (some 99))), (1, .inr (.inr (some m)))], [], Q8) _
  have D8 : ud m Q8 = (V6.1, V6.2.1, f2 (f2 V6.2.2.1 99 8 (L7, g7)) 99 8 (L7, g8), f2 V6.2.2.2.1 99 8 z7, V6.2.2.2.2) := D8
  rw [f2_two] at D8
  show mu_W _ _ (245, [(2, .inl (nI (U.1 15).1)), (0, .inr (.inr (some 99))), (1, .inr (.inr (some m)))], [], Q8) _
  refine mw_go mu_g268 (k := 3) (f1 := (250, [(2, .inl (nI (U.1 15).1)), (0, .inr (.inr (some 99))), (1, .inr (.inr (some m)))], [], mu_si Q8 99 11 (1 : Int32))) (C := [mu_is Q8 (some 99) 13]) rfl (show mu_is Q8 (some 99) 13 from (u8.1.1.is rfl)) ?_
  obtain ⟨u9, r9, d9⟩ := u8.putI (C := C) (P := 99) (k := 11) (v := (1 : Int32)) rfl
  rw [D8] at d9
  generalize mu_si Q8 99 11 (1 : Int32) = Q9 at u9 r9 d9 ⊢
  have D9 : ud m Q9 = (upI (V6.1, V6.2.1, f2 V6.2.2.1 99 8 (L7, g8), f2 V6.2.2.2.1 99 8 z7, V6.2.2.2.2) 99 11 (1 : Int32)) := d9
  refine mw_go mu_g268 (k := 2) (f1 := (254, [(2, .inl (nI (U.1 15).1)), (0, .inr (.inr (some 99))), (1, .inr (.inr (some m)))], [.inl (mu_i Q9 99 4)], Q9)) (C := [mu_is Q9 (some 99) 13]) rfl (show mu_is Q9 (some 99) 13 from (u9.1.1.is rfl)) ?_
  rw [show mu_i Q9 99 4 = nI P from (ud_i (m := m) (P := 99) (j := 4) D9 rfl).trans p1]
  refine mw_go mu_g268 (k := 3) (f1 := (257, [(2, .inl (nI P - 1)), (0, .inr (.inr (some 99))), (1, .inr (.inr (some m)))], [], Q9)) (C := []) rfl trivial ?_
  refine sp_loop3 (C := C) (d := d + 1) (P := P) (f := f) (U := (upI (V6.1, V6.2.1, f2 V6.2.2.1 99 8 (L7, g8), f2 V6.2.2.2.1 99 8 z7, V6.2.2.2.2) 99 11 (1 : Int32))) u9 D9 s3 (fun k hk => (p3 k hk).1) rfl (fun Q10 u10 r10 hB3 => ?_)
  obtain ⟨V10, D10⟩ : ∃ V, ud m Q10 = V := ⟨_, rfl⟩
  rw [D10] at hB3
  obtain ⟨b1, b2, b3, b4, b5, b6, b7⟩ := hB3
  rw [Nat.sub_zero] at b2
  refine mw_go mu_g268 (k := 3) (f1 := (297, [(2, .inl (nI 0 - 1)), (0, .inr (.inr (some 99))), (1, .inr (.inr (some m)))], [.inl (mu_i Q10 99 11), .inr (.inr (some 99))], Q10)) (C := [mu_is Q10 (some 99) 13]) rfl (show mu_is Q10 (some 99) 13 from (u10.1.1.is rfl)) ?_
  rw [show mu_i Q10 99 11 = nI (pd f 0 P) from (ud_i (m := m) (P := 99) (j := 11) D10 rfl).trans b2]
  refine mw_go mu_g268 (k := 5) (f1 := (306, [(2, .inl (nI 0 - 1)), (0, .inr (.inr (some 99))), (1, .inr (.inr (some m)))], [], mu_si Q10 99 12 ((nI (pd f 0 P) + 63) >>> (6 &&& 31)))) (C := [mu_is Q10 (some 99) 13]) rfl (show mu_is Q10 (some 99) 13 from (u10.1.1.is rfl)) ?_
  obtain ⟨wd, hwd⟩ : ∃ wd, wd = ((nI (pd f 0 P) + 63) >>> (6 &&& 31)) := ⟨_, rfl⟩
  rw [← hwd]
  obtain ⟨u11, r11, d11⟩ := u10.putI (C := C) (P := 99) (k := 12) (v := wd) rfl
  rw [D10] at d11
  generalize mu_si Q10 99 12 wd = Q11 at u11 r11 d11 ⊢
  have D11 : ud m Q11 = (upI V10 99 12 wd) := d11
  refine mw_go mu_g268 (k := 5) (f1 := (315, [(2, .inl (nI 0 - 1)), (0, .inr (.inr (some 99))), (1, .inr (.inr (some m)))], [.inl (mu_i Q11 99 11), .inr (.inr (mu_r Q11 99 18)), .inr (.inr (some 99))], Q11)) (C := [mu_is Q11 (some 99) 13, mu_is Q11 (some 99) 13]) rfl (show (mu_is Q11 (some 99) 13) ∧ (mu_is Q11 (some 99) 13) from ⟨(u11.1.1.is rfl), (u11.1.1.is rfl)⟩) ?_
  rw [show mu_i Q11 99 11 = nI (pd f 0 P) from (ud_i (m := m) (P := 99) (j := 11) D11 rfl).trans b2]
  refine mw_go mu_g268 (k := 1) (f1 := (316, [(2, .inl (nI 0 - 1)), (0, .inr (.inr (some 99))), (1, .inr (.inr (some m)))], [.inl (nI 1), .inl (nI (pd f 0 P)), .inr (.inr (mu_r Q11 99 18)), .inr (.inr (some 99))], Q11)) (C := []) rfl trivial ?_
  have m18 : (V10.2.2.1 99 18).1 = (U.2.2.1 99 18).1 := by rw [b5 99 18 (by decide)]; exact l18
  have w18 : lwh 1 (mu_n Q11 (mu_p (mu_r Q11 99 18))) := by rw [ud_n (m := m) (P := 99) (J := 18) D11 rfl rfl]; show lwh 1 (V10.2.2.1 99 18).1; rw [m18]; exact h18
  refine mw_cA (fun _ => rfl) trivial (fitStates_ok (d := d + 2) (n := pd f 0 P) (e := 1) (u11.1.1.o (p := 99) (j := 18) rfl) s2 (Or.inl rfl) u11.1.1.z w18) (fun x12 F12 q12 => ?_)
  refine mw_go mu_g268 (k := 1) (f1 := (322, [(2, .inl (nI 0 - 1)), (0, .inr (.inr (some 99))), (1, .inr (.inr (some m)))], [], mu_sr F12 99 18 x12)) (C := [mu_is F12 (some 99) 13]) rfl (show mu_is F12 (some 99) 13 from fit_is (u11.1.1.is rfl) q12) ?_
  obtain ⟨u12, r12, L12, g12, z12, D12, e12, w12⟩ := u11.fitS (C := C) (J := 18) (n := pd f 0 P) D11 rfl rfl q12 (by show lwh 1 (V10.2.2.1 99 18).1; rw [m18]; exact h18)
  generalize mu_sr F12 99 18 x12 = Q12 at u12 r12 D12 ⊢
  refine mw_go mu_g268 (k := 2) (f1 := (326, [(2, .inl (nI 0 - 1)), (0, .inr (.inr (some 99))), (1, .inr (.inr (some m)))], [.inr (.inr (mu_r Q12 99 1))], Q12)) (C := [mu_is Q12 (some 99) 13]) rfl (show mu_is Q12 (some 99) 13 from (u12.1.1.is rfl)) ?_
  rw [u12.1.1.r (p := 99) (j := 1) (q := 100) rfl]
  refine mw_go mu_g268 (k := 1) (f1 := (327, [(2, .inl (nI 0 - 1)), (0, .inr (.inr (some 99))), (1, .inr (.inr (some m)))], [.inr (.inr (some 99)), .inr (.inr (some 100))], Q12)) (C := []) rfl trivial ?_
  refine mw_cV (fun _ => rfl) (show mu_is Q12 (some 100) 5 from u12.1.1.is rfl) (mc_begin (C := C) (d := d + 2) u12 D12) (fun Q13 q13 => ?_)
  obtain ⟨u13, r13, D13⟩ := q13
  refine mw_of (fun _ => mu_ret rfl trivial ⟨Q13, rfl, u13, ((((((R5.trans r6).trans r7).trans r8).trans r9).trans r10).trans r11).trans (r12.trans r13), ?_⟩)
  rw [D13, ← hPe, ← hfe]
  have v1 : V10.1 = V6.1 := b1
  have aa : ∀ p i, ¬ (p = 99 ∧ i = 6) → V10.2.2.1 p i = f2 V6.2.2.1 99 8 (L7, g8) p i := b5
  have ii : ∀ p i, ¬ (p = 99 ∧ i = 11) → V10.2.1 p i = V6.2.1 p i := fun p i hp => (b6 p i hp).trans (if_neg hp)
  refine ⟨?_, ?_⟩
  rotate_left
  · unfold SGP
    rw [← hPe, ← hfe]
    refine ⟨⟨?_, fun i c hc => ?_, fun w hw => ?_⟩, ⟨?_, fun k hk => ⟨?_, ?_⟩⟩, fun k hk y => ?_, fun w hw w1 q hq => ?_⟩
    · show (ac 21 V10.1 0 15).1 = _; rw [show ac 21 V10.1 0 15 = V10.1 15 from fu_ne _ _ (by decide), v1]; exact t2
    · show (ac 21 V10.1 0 15).2 i c = _; rw [show ac 21 V10.1 0 15 = V10.1 15 from fu_ne _ _ (by decide), v1]; exact t3 i c hc
    · show (ac 21 V10.1 0 15).2 w 2 = _; rw [show ac 21 V10.1 0 15 = V10.1 15 from fu_ne _ _ (by decide), v1]; exact gx3 w hw
    · show V10.2.1 99 4 = nI P; rw [ii 99 4 (by decide)]; exact p1
    · show (V10.2.2.1 99 5).2 k = _; rw [aa 99 5 (by decide)]; exact (p3 k hk).1
    · show (V10.2.2.1 99 7).2 k = _; rw [aa 99 7 (by decide)]; exact (p3 k hk).2
    · have y2 : ¬ mb (V10.2.1 99 9) k = 0 := y
      rw [ii 99 9 (by decide)] at y2
      exact gx7 k hk y2
    · show (V10.2.2.1 99 8).2 _ = _; rw [aa 99 8 (by decide)]; exact (hw8 w hw w1 q hq).trans (wor_eq (t1 3 (by decide)) (t1 4 (by decide)))
  refine ⟨⟨fun j h1 h2 => ?_, ?_, fun i c hc => ?_, fun w hw => ?_, ?_⟩, hs, ⟨?_, ?_, ?_, ?_, ?_⟩, fun k hk => ⟨?_, ?_, ?_⟩, ⟨?_, ?_, e12, w12⟩, ⟨?_, rfl, fun p i hp hp2 => ?_⟩, ⟨fun p i hp => ?_, fun p i hp => ?_, ?_⟩⟩
  · show ac 21 V10.1 0 j = U.1 j; rw [show ac 21 V10.1 0 j = V10.1 j from fu_ne _ _ h2, v1]; exact t1 j h1
  · show (ac 21 V10.1 0 15).1 = _; rw [show ac 21 V10.1 0 15 = V10.1 15 from fu_ne _ _ (by decide), v1]; exact t2
  · show (ac 21 V10.1 0 15).2 i c = _; rw [show ac 21 V10.1 0 15 = V10.1 15 from fu_ne _ _ (by decide), v1]; exact t3 i c hc
  · show (ac 21 V10.1 0 15).2 w 2 = -1 ∨ ∃ k, k < P ∧ (ac 21 V10.1 0 15).2 w 2 = nI k; rw [show ac 21 V10.1 0 15 = V10.1 15 from fu_ne _ _ (by decide), v1]; exact t4 w hw
  · show (ac 21 V10.1 0 21).1 = 0; unfold ac; rw [fu_at]; rfl
  · show V10.2.1 99 4 = nI P; rw [ii 99 4 (by decide)]; exact p1
  · show V10.2.1 99 10 = _; rw [ii 99 10 (by decide)]; exact p2
  · exact b2
  · exact hwd
  · show V10.2.1 99 13 = 0; rw [ii 99 13 (by decide), k3 99 13 (by decide)]; rfl
  · show (V10.2.2.1 99 5).2 k = _; rw [aa 99 5 (by decide)]; exact (p3 k hk).1
  · show (V10.2.2.1 99 7).2 k = _; rw [aa 99 7 (by decide)]; exact (p3 k hk).2
  · exact b3 k (Nat.zero_le _) hk
  · show sm f 0 P + 4 ≤ (V10.2.2.1 99 8).1; rw [aa 99 8 (by decide)]; exact e7
  · show lwh 1 (V10.2.2.1 99 8).1; rw [aa 99 8 (by decide)]; exact w7
  · show V10.2.2.2.1 99 0 = some m; rw [b4]; show V6.2.2.2.1 99 0 = some m; rw [k1]; rfl
  · show f2 (f2 V10.2.2.2.1 99 18 z12) 100 0 (some 99) p i = _; unfold f2; rw [if_neg hp2, if_neg (fun z => hp ⟨z.1, Or.inr (Or.inr z.2)⟩), b4]; show f2 V6.2.2.2.1 99 8 z7 p i = _; unfold f2; rw [if_neg (fun z => hp ⟨z.1, Or.inr (Or.inl z.2)⟩), k1]; exact if_neg (fun z => hp ⟨z.1, Or.inl z.2⟩)
  · show f2 V10.2.2.1 99 18 (L12, g12) p i = _; unfold f2; rw [if_neg (fun z => hp z.1), aa p i (fun z => hp z.1)]; unfold f2; rw [if_neg (fun z => hp z.1)]; exact k2 p i (fun z => hp z.1)
  · show f2 V10.2.1 99 12 wd p i = _; unfold f2; rw [if_neg (fun z => hp z.1), ii p i (fun z => hp z.1), k3 p i (fun z => hp z.1)]; show f2 (f2 (f2 (f2 U.2.1 99 13 0) 99 4 0) 99 10 0) 99 9 0 p i = _; unfold f2; rw [if_neg (fun z => hp z.1), if_neg (fun z => hp z.1), if_neg (fun z => hp z.1), if_neg (fun z => hp z.1)]
  · show V10.2.2.2.2 = U.2.2.2.2; rw [b4]; exact k4
end Begin3
