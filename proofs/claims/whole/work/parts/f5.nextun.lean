/-! GRAPH: nextUnseen -/
def BUN (U : Ud) (t : Nat) : Bool := bts (U.2.2.2.2.1 146) t && bts (U.2.2.2.2.1 150) t
section NextUn
variable {H : mu_H} {U : Ud} {m d bf bt fr w : Nat} {C : Nat → Nat} {lf x y : Int64}
theorem nu_hi {b : Nat} (hw : fr / 64 < w) : (btz (x &&& y &&& (-1 : Int64)) b = true ∧ b < 64) ↔ (btz x b = true ∧ btz y b = true ∧ fr ≤ w * 64 + b ∧ b < 64) := by
  constructor
  · rintro ⟨h, hb⟩
    rw [btz_and, btz_and, btz_m1 hb, Bool.and_true, Bool.and_eq_true] at h
    exact ⟨h.1, h.2, by omega, hb⟩
  · rintro ⟨h1, h2, h3, hb⟩
    refine ⟨?_, hb⟩
    rw [btz_and, btz_and, btz_m1 hb, h1, h2]; rfl
theorem nu_lo {b : Nat} (hw : w = fr / 64) (hf : fr < 2147483648) : (btz (x &&& y &&& ((-1 : Int64) <<< ((nI fr).toInt64 &&& 63))) b = true ∧ b < 64) ↔ (btz x b = true ∧ btz y b = true ∧ fr ≤ w * 64 + b ∧ b < 64) := by
  constructor
  · rintro ⟨h, hb⟩
    rw [btz_and, btz_and, btz_shl hf hb, Bool.and_eq_true, Bool.and_eq_true, Bool.and_eq_true, decide_eq_true_iff] at h
    exact ⟨h.1.1, h.1.2, by have := h.2.1; omega, hb⟩
  · rintro ⟨h1, h2, h3, hb⟩
    refine ⟨?_, hb⟩
    have h4 : fr % 64 ≤ b := by omega
    rw [btz_and, btz_and, btz_shl hf hb, h1, h2, btz_m1 (by omega), decide_eq_true h4]; rfl
theorem BUN_at {t : Nat} : BUN U t = true ↔ btz (U.2.2.2.2.1 146 (t / 64)) (t % 64) = true ∧ btz (U.2.2.2.2.1 150 (t / 64)) (t % 64) = true := by
  unfold BUN bts
  rw [Bool.and_eq_true]
/-- PathProver$Graph.nextUnseen(I)I -/
abbrev mu_m334 : ev_M := (5, (some .int), [], ev_b334)
theorem mu_g334 : mu_good mu_m334 := mu_goodk ev_k334
theorem gr_next (h : um m H) (e : ud m H = U) (hz : BZ U bf bt) (hfr : fr ≤ 16384) : mu_TI (mu_D (d + 3)) 334 [.inr (.inr (some 147)), .inl (nI fr)] H (fun x H1 => H1 = H ∧ ((x = -1 ∧ ∀ t, fr ≤ t → t < 16384 → ¬ BUN U t = true) ∨ ∃ t, x = nI t ∧ fr ≤ t ∧ t < 16384 ∧ BUN U t = true ∧ ∀ i, fr ≤ i → i < t → ¬ BUN U i = true)) := by
  obtain ⟨hz1, hz2, hz3, hz4⟩ := hz.1
  refine mu_meth (M := mu_m334) rfl rfl ?_
  refine mw_ht (mu_fn_of (show [0, 1].Nodup by decide)) ?_
  refine mw_go mu_g334 (k := 3) (f1 := (4, [(0, .inr (.inr (some 147))), (1, .inl (nI fr))], [.inl ((nI fr) >>> ((6 : Int32) &&& 31))], H)) (C := []) rfl trivial ?_
  rw [(show ((nI fr) >>> ((6 : Int32) &&& 31)) = (nI (fr / 64)) from (nI_shr6 (a := fr) (by omega)))]
  refine mw_go mu_g334 (k := 2) (f1 := (8, [(0, .inr (.inr (some 147))), (1, .inl (nI fr))], [.inr (.inr (mu_r H 147 1)), .inl (nI (fr / 64))], H)) (C := [mu_is H (some 147) 2]) rfl (show mu_is H (some 147) 2 from (h.1.1.is rfl)) ?_
  rw [(h.1.1.r (p := 147) (j := 1) (q := 129) rfl)]
  refine mw_go mu_g334 (k := 1) (f1 := (11, [(0, .inr (.inr (some 147))), (1, .inl (nI fr))], [.inl (mu_i H 129 19), .inl (nI (fr / 64))], H)) (C := [mu_is H (some 129) 9]) rfl (show mu_is H (some 129) 9 from (h.1.1.is rfl)) ?_
  rw [(show mu_i H 129 19 = (nI bf) from (ud_i (U := U) (m := m) (P := 129) (j := 19) e rfl).trans hz1)]
  refine mw_cIe (fun _ => rfl) trivial (mu_max_ok (d := (d + 1)) (nI (fr / 64)) (nI bf)) ?_
  rw [show (mu_max (nI (fr / 64)) (nI bf)) = nI (max (fr / 64) bf) from mu_max_n (a := fr / 64) (b := bf) (by omega) (by omega)]
  refine mw_go mu_g334 (k := 1) (f1 := (15, [(2, .inl (nI (max (fr / 64) bf))), (0, .inr (.inr (some 147))), (1, .inl (nI fr))], [], H)) (C := []) rfl trivial ?_
  refine mw_sub (L' := [(2, .inl (nI (max (fr / 64) bf))), (0, .inr (.inr (some 147))), (1, .inl (nI fr))]) (by simp) ?_
  refine mw_down (α := Nat) (fun zs => (15, [(2, .inl (nI zs)), (0, .inr (.inr (some 147))), (1, .inl (nI fr))], [], H)) (fun zs => bt - zs) (fun zs => (fr / 64 ≤ zs ∧ zs ≤ 16384) ∧ (∀ t, fr ≤ t → t / 64 < zs → ¬ BUN U t = true)) (fun zs hza iha => ?_) (max (fr / 64) bf) ⟨(show fr / 64 ≤ (max (fr / 64) bf) ∧ (max (fr / 64) bf) ≤ 16384 from (by omega)), (show ∀ t, fr ≤ t → t / 64 < (max (fr / 64) bf) → ¬ BUN U t = true from (fun t t1 t2 y => by rw [BUN_at] at y; rw [hz.2 (t / 64) (by omega) (fun y2 => by omega), btz_0] at y; cases y.1))⟩
  obtain ⟨w, rfl⟩ : ∃ y, y = zs := ⟨zs, rfl⟩
  obtain ⟨hw, hno⟩ := hza
  have hw : fr / 64 ≤ w ∧ w ≤ 16384 := hw
  have hno : ∀ t, fr ≤ t → t / 64 < w → ¬ BUN U t = true := hno
  show mu_W _ _ (15, [(2, .inl (nI w)), (0, .inr (.inr (some 147))), (1, .inl (nI fr))], [], H) _
  refine mw_go mu_g334 (k := 3) (f1 := (20, [(2, .inl (nI w)), (0, .inr (.inr (some 147))), (1, .inl (nI fr))], [.inr (.inr (mu_r H 147 1)), .inl (nI w)], H)) (C := [mu_is H (some 147) 2]) rfl (show mu_is H (some 147) 2 from (h.1.1.is rfl)) ?_
  rw [(h.1.1.r (p := 147) (j := 1) (q := 129) rfl)]
  refine mw_go mu_g334 (k := 1) (f1 := (23, [(2, .inl (nI w)), (0, .inr (.inr (some 147))), (1, .inl (nI fr))], [.inl (mu_i H 129 20), .inl (nI w)], H)) (C := [mu_is H (some 129) 9]) rfl (show mu_is H (some 129) 9 from (h.1.1.is rfl)) ?_
  rw [(show mu_i H 129 20 = (nI bt) from (ud_i (U := U) (m := m) (P := 129) (j := 20) e rfl).trans hz2)]
  refine mw_if (P := (nI w) < (nI bt)) (a := 26) (b := 85) (fun _ => rfl) trivial (fun h2 => ?_) (fun h2 => ?_)
  · -- 26: (nI w) < (nI bt)
    have nh2 : w < bt := (nI_ltI (by omega) (by omega)).mp (show nI w < nI bt from h2)
    refine mw_go mu_g334 (k := 2) (f1 := (30, [(2, .inl (nI w)), (0, .inr (.inr (some 147))), (1, .inl (nI fr))], [.inr (.inr (mu_r H 147 1))], H)) (C := [mu_is H (some 147) 2]) rfl (show mu_is H (some 147) 2 from (h.1.1.is rfl)) ?_
    rw [(h.1.1.r (p := 147) (j := 1) (q := 129) rfl)]
    refine mw_go mu_g334 (k := 1) (f1 := (33, [(2, .inl (nI w)), (0, .inr (.inr (some 147))), (1, .inl (nI fr))], [.inr (.inr (mu_r H 129 18))], H)) (C := [mu_is H (some 129) 9]) rfl (show mu_is H (some 129) 9 from (h.1.1.is rfl)) ?_
    rw [(h.1.1.r (p := 129) (j := 18) (q := 146) rfl)]
    refine mw_go mu_g334 (k := 2) (f1 := (35, [(2, .inl (nI w)), (0, .inr (.inr (some 147))), (1, .inl (nI fr))], [.inr (.inl (mu_l H 146 (nI w).toNatClampNeg))], H)) (C := [mu_isr H (some 146) 102, vp_in (nI w) (mu_n H 146)]) rfl (show (mu_isr H (some 146) 102) ∧ (vp_in (nI w) (mu_n H 146)) from ⟨((h.1.1.a (p := 146) (x := (102, 256)) rfl).1).r, (by rw [show mu_n H 146 = 256 from (h.1.1.a (p := 146) (x := (102, 256)) rfl).2]; exact vp_in_nI (n := w) (by omega) (by decide))⟩) ?_
    rw [(show (mu_l H 146 (nI w).toNatClampNeg) = (U.2.2.2.2.1 146) w from (congrArg (mu_l H 146) (show (nI w).toNatClampNeg = w from nI_clamp (by omega))).trans ((ud_l (m := m) (p := 146) (i := w) e rfl).trans (congrFun (show U.2.2.2.2.1 146 = (U.2.2.2.2.1 146) from rfl) w)))]
    refine mw_go mu_g334 (k := 2) (f1 := (39, [(2, .inl (nI w)), (0, .inr (.inr (some 147))), (1, .inl (nI fr))], [.inr (.inr (mu_r H 147 4)), .inr (.inl ((U.2.2.2.2.1 146) w))], H)) (C := [mu_is H (some 147) 2]) rfl (show mu_is H (some 147) 2 from (h.1.1.is rfl)) ?_
    rw [(h.1.1.r (p := 147) (j := 4) (q := 150) rfl)]
    refine mw_go mu_g334 (k := 2) (f1 := (41, [(2, .inl (nI w)), (0, .inr (.inr (some 147))), (1, .inl (nI fr))], [.inr (.inl (mu_l H 150 (nI w).toNatClampNeg)), .inr (.inl ((U.2.2.2.2.1 146) w))], H)) (C := [mu_isr H (some 150) 102, vp_in (nI w) (mu_n H 150)]) rfl (show (mu_isr H (some 150) 102) ∧ (vp_in (nI w) (mu_n H 150)) from ⟨((h.1.1.a (p := 150) (x := (102, 256)) rfl).1).r, (by rw [show mu_n H 150 = 256 from (h.1.1.a (p := 150) (x := (102, 256)) rfl).2]; exact vp_in_nI (n := w) (by omega) (by decide))⟩) ?_
    rw [(show (mu_l H 150 (nI w).toNatClampNeg) = (U.2.2.2.2.1 150) w from (congrArg (mu_l H 150) (show (nI w).toNatClampNeg = w from nI_clamp (by omega))).trans ((ud_l (m := m) (p := 150) (i := w) e rfl).trans (congrFun (show U.2.2.2.2.1 150 = (U.2.2.2.2.1 150) from rfl) w)))]
    refine mw_go mu_g334 (k := 5) (f1 := (47, [(2, .inl (nI w)), (0, .inr (.inr (some 147))), (1, .inl (nI fr))], [.inl ((nI fr) >>> ((6 : Int32) &&& 31)), .inl (nI w), .inr (.inl (((U.2.2.2.2.1 146) w) &&& ((U.2.2.2.2.1 150) w)))], H)) (C := []) rfl trivial ?_
    rw [(show ((nI fr) >>> ((6 : Int32) &&& 31)) = (nI (fr / 64)) from (nI_shr6 (a := fr) (by omega)))]
    refine mw_if (P := (nI (fr / 64)) < (nI w)) (a := 50) (b := 56) (fun _ => rfl) trivial (fun h3 => ?_) (fun h3 => ?_)
    · -- 50: (nI (fr / 64)) < (nI w)
      have nh3 : (fr / 64) < w := (nI_ltI (by omega) (by omega)).mp (show nI (fr / 64) < nI w from h3)
      refine mw_go mu_g334 (k := 3) (f1 := (62, [(2, .inl (nI w)), (0, .inr (.inr (some 147))), (1, .inl (nI fr))], [.inr (.inl ((((U.2.2.2.2.1 146) w) &&& ((U.2.2.2.2.1 150) w)) &&& (-1 : Int64)))], H)) (C := []) rfl trivial ?_
      obtain ⟨lf, hlf⟩ : ∃ y, y = ((((U.2.2.2.2.1 146) w) &&& ((U.2.2.2.2.1 150) w)) &&& (-1 : Int64)) := ⟨_, rfl⟩
      rw [← hlf]
      have hlb : ∀ b, (btz lf b = true ∧ b < 64) ↔ (btz (U.2.2.2.2.1 146 w) b = true ∧ btz (U.2.2.2.2.1 150 w) b = true ∧ fr ≤ w * 64 + b ∧ b < 64) := fun b => by rw [hlf]; exact nu_hi nh3
      refine mw_go mu_g334 (k := 4) (f1 := (66, [(3, .inr (.inl lf)), (2, .inl (nI w)), (0, .inr (.inr (some 147))), (1, .inl (nI fr))], [.inl (lg_cmp lf (0 : Int64))], H)) (C := []) rfl trivial ?_
      refine mw_if (P := (lg_cmp lf (0 : Int64)) = 0) (a := 79) (b := 69) (fun _ => rfl) trivial (fun h4 => ?_) (fun h4 => ?_)
      · -- 79: (lg_cmp lf (0 : Int64)) = 0
        refine mw_go mu_g334 (k := 1) (f1 := (82, [(2, .inl ((nI w) + 1)), (3, .inr (.inl lf)), (0, .inr (.inr (some 147))), (1, .inl (nI fr))], [], H)) (C := []) rfl trivial ?_
        rw [(show ((nI w) + 1) = (nI (w + 1)) from (nI_add w 1))]
        refine mw_go mu_g334 (k := 1) (f1 := (15, [(2, .inl (nI (w + 1))), (3, .inr (.inl lf)), (0, .inr (.inr (some 147))), (1, .inl (nI fr))], [], H)) (C := []) rfl trivial ?_
        exact mw_sub (by simp) (iha (w + 1) ⟨(show fr / 64 ≤ (w + 1) ∧ (w + 1) ≤ 16384 from (by omega)), (show ∀ t, fr ≤ t → t / 64 < (w + 1) → ¬ BUN U t = true from (fun t t1 t2 y => by by_cases e2 : t / 64 < w; (exact hno t t1 e2 y); (rw [BUN_at, show t / 64 = w by omega] at y; have y2 := ((hlb (t % 64)).mpr ⟨y.1, y.2, by omega, by omega⟩).1; rw [lg_ne.mp h4, btz_0] at y2; cases y2)))⟩ (by show bt - (w + 1) < bt - w; omega))
      · -- 69: not (lg_cmp lf (0 : Int64)) = 0
        refine mw_go mu_g334 (k := 3) (f1 := (73, [(3, .inr (.inl lf)), (2, .inl (nI w)), (0, .inr (.inr (some 147))), (1, .inl (nI fr))], [.inl ((nI w) * (64 : Int32))], H)) (C := []) rfl trivial ?_
        rw [(show ((nI w) * (64 : Int32)) = (nI (w * 64)) from (nI_mul (a := w) (b := 64)))]
        refine mw_go mu_g334 (k := 1) (f1 := (74, [(3, .inr (.inl lf)), (2, .inl (nI w)), (0, .inr (.inr (some 147))), (1, .inl (nI fr))], [.inr (.inl lf), .inl (nI (w * 64))], H)) (C := []) rfl trivial ?_
        obtain ⟨t0, ht1, ht2, ht3⟩ := low_ex (x := lf) (fun y => h4 (lg_ne.mpr y))
        refine mw_cIe (fun _ => rfl) trivial (jl_tz_ok (d := d) lf) ?_
        rw [show jl_tz lf = nI t0 from tz64 ht1 ht2 ht3]
        refine mw_go mu_g334 (k := 1) (f1 := (78, [(3, .inr (.inl lf)), (2, .inl (nI w)), (0, .inr (.inr (some 147))), (1, .inl (nI fr))], [.inl ((nI (w * 64)) + (nI t0))], H)) (C := []) rfl trivial ?_
        rw [(show ((nI (w * 64)) + (nI t0)) = (nI ((w * 64) + t0)) from (nI_add (w * 64) t0))]
        obtain ⟨lb1, lb2, lb3, -⟩ := (hlb t0).mp ⟨ht2, ht1⟩
        refine mw_of (fun _ => mu_ret rfl trivial ⟨_, H, rfl, rfl, Or.inr ⟨w * 64 + t0, rfl, lb3, by omega, ?_, fun i i1 i2 y => ?_⟩⟩)
        · rw [BUN_at, show (w * 64 + t0) / 64 = w by omega, show (w * 64 + t0) % 64 = t0 by omega]; exact ⟨lb1, lb2⟩
        · by_cases e2 : i / 64 < w
          · exact hno i i1 e2 y
          · rw [BUN_at, show i / 64 = w by omega] at y
            have y2 := ((hlb (i % 64)).mpr ⟨y.1, y.2, by omega, by omega⟩).1
            rw [ht3 (i % 64) (by omega)] at y2
            cases y2
    · -- 56: not (nI (fr / 64)) < (nI w)
      have nh3 : ¬ (fr / 64) < w := fun z => h3 (show nI (fr / 64) < nI w from (nI_ltI (by omega) (by omega)).mpr z)
      refine mw_go mu_g334 (k := 4) (f1 := (62, [(2, .inl (nI w)), (0, .inr (.inr (some 147))), (1, .inl (nI fr))], [.inr (.inl ((((U.2.2.2.2.1 146) w) &&& ((U.2.2.2.2.1 150) w)) &&& ((-1 : Int64) <<< ((nI fr).toInt64 &&& 63))))], H)) (C := []) rfl trivial ?_
      obtain ⟨lf, hlf⟩ : ∃ y, y = ((((U.2.2.2.2.1 146) w) &&& ((U.2.2.2.2.1 150) w)) &&& ((-1 : Int64) <<< ((nI fr).toInt64 &&& 63))) := ⟨_, rfl⟩
      rw [← hlf]
      have hlb : ∀ b, (btz lf b = true ∧ b < 64) ↔ (btz (U.2.2.2.2.1 146 w) b = true ∧ btz (U.2.2.2.2.1 150 w) b = true ∧ fr ≤ w * 64 + b ∧ b < 64) := fun b => by rw [hlf]; exact nu_lo (by omega) (by omega)
      refine mw_go mu_g334 (k := 4) (f1 := (66, [(3, .inr (.inl lf)), (2, .inl (nI w)), (0, .inr (.inr (some 147))), (1, .inl (nI fr))], [.inl (lg_cmp lf (0 : Int64))], H)) (C := []) rfl trivial ?_
      refine mw_if (P := (lg_cmp lf (0 : Int64)) = 0) (a := 79) (b := 69) (fun _ => rfl) trivial (fun h6 => ?_) (fun h6 => ?_)
      · -- 79: (lg_cmp lf (0 : Int64)) = 0
        refine mw_go mu_g334 (k := 1) (f1 := (82, [(2, .inl ((nI w) + 1)), (3, .inr (.inl lf)), (0, .inr (.inr (some 147))), (1, .inl (nI fr))], [], H)) (C := []) rfl trivial ?_
        rw [(show ((nI w) + 1) = (nI (w + 1)) from (nI_add w 1))]
        refine mw_go mu_g334 (k := 1) (f1 := (15, [(2, .inl (nI (w + 1))), (3, .inr (.inl lf)), (0, .inr (.inr (some 147))), (1, .inl (nI fr))], [], H)) (C := []) rfl trivial ?_
        exact mw_sub (by simp) (iha (w + 1) ⟨(show fr / 64 ≤ (w + 1) ∧ (w + 1) ≤ 16384 from (by omega)), (show ∀ t, fr ≤ t → t / 64 < (w + 1) → ¬ BUN U t = true from (fun t t1 t2 y => by by_cases e2 : t / 64 < w; (exact hno t t1 e2 y); (rw [BUN_at, show t / 64 = w by omega] at y; have y2 := ((hlb (t % 64)).mpr ⟨y.1, y.2, by omega, by omega⟩).1; rw [lg_ne.mp h6, btz_0] at y2; cases y2)))⟩ (by show bt - (w + 1) < bt - w; omega))
      · -- 69: not (lg_cmp lf (0 : Int64)) = 0
        refine mw_go mu_g334 (k := 3) (f1 := (73, [(3, .inr (.inl lf)), (2, .inl (nI w)), (0, .inr (.inr (some 147))), (1, .inl (nI fr))], [.inl ((nI w) * (64 : Int32))], H)) (C := []) rfl trivial ?_
        rw [(show ((nI w) * (64 : Int32)) = (nI (w * 64)) from (nI_mul (a := w) (b := 64)))]
        refine mw_go mu_g334 (k := 1) (f1 := (74, [(3, .inr (.inl lf)), (2, .inl (nI w)), (0, .inr (.inr (some 147))), (1, .inl (nI fr))], [.inr (.inl lf), .inl (nI (w * 64))], H)) (C := []) rfl trivial ?_
        obtain ⟨t0, ht1, ht2, ht3⟩ := low_ex (x := lf) (fun y => h6 (lg_ne.mpr y))
        refine mw_cIe (fun _ => rfl) trivial (jl_tz_ok (d := d) lf) ?_
        rw [show jl_tz lf = nI t0 from tz64 ht1 ht2 ht3]
        refine mw_go mu_g334 (k := 1) (f1 := (78, [(3, .inr (.inl lf)), (2, .inl (nI w)), (0, .inr (.inr (some 147))), (1, .inl (nI fr))], [.inl ((nI (w * 64)) + (nI t0))], H)) (C := []) rfl trivial ?_
        rw [(show ((nI (w * 64)) + (nI t0)) = (nI ((w * 64) + t0)) from (nI_add (w * 64) t0))]
        obtain ⟨lb1, lb2, lb3, -⟩ := (hlb t0).mp ⟨ht2, ht1⟩
        refine mw_of (fun _ => mu_ret rfl trivial ⟨_, H, rfl, rfl, Or.inr ⟨w * 64 + t0, rfl, lb3, by omega, ?_, fun i i1 i2 y => ?_⟩⟩)
        · rw [BUN_at, show (w * 64 + t0) / 64 = w by omega, show (w * 64 + t0) % 64 = t0 by omega]; exact ⟨lb1, lb2⟩
        · by_cases e2 : i / 64 < w
          · exact hno i i1 e2 y
          · rw [BUN_at, show i / 64 = w by omega] at y
            have y2 := ((hlb (i % 64)).mpr ⟨y.1, y.2, by omega, by omega⟩).1
            rw [ht3 (i % 64) (by omega)] at y2
            cases y2
  · -- 85: not (nI w) < (nI bt)
    have nh2 : ¬ w < bt := fun z => h2 (show nI w < nI bt from (nI_ltI (by omega) (by omega)).mpr z)
    refine mw_go mu_g334 (k := 1) (f1 := (86, [(2, .inl (nI w)), (0, .inr (.inr (some 147))), (1, .inl (nI fr))], [.inl (-1 : Int32)], H)) (C := []) rfl trivial ?_
    exact mw_of (fun _ => mu_ret rfl trivial ⟨_, H, rfl, rfl, Or.inl ⟨rfl, fun t t1 t2 y => by by_cases e2 : t / 64 < w; (exact hno t t1 e2 y); (rw [BUN_at] at y; rw [hz.2 (t / 64) (by omega) (fun y2 => by omega), btz_0] at y; cases y.1)⟩⟩)
end NextUn
