/-! RELATION: choices as digits -/
section ListDigits
variable {H : mu_H} {U V : Ud} {m d P n k s lane K bf bt : Nat} {C : Nat → Nat} {f : Nat → Nat} {v : Int32} {cv : Nat → Int32}
/-- the VALUES of a place: in a row where they are a range, all different -/
def VDF (U : Ud) (P : Nat) (f : Nat → Nat) : Prop := (∀ k, k < P → ¬ mb (U.2.1 99 9) k = 0 → ∀ q, q < f k → (U.2.2.1 99 8).2 (sm f 0 k + q) = (U.2.2.1 99 8).2 (sm f 0 k) + nI q) ∧ ∀ k, k < P → ∀ q q', q < f k → q' < f k → (U.2.2.1 99 8).2 (sm f 0 k + q) = (U.2.2.1 99 8).2 (sm f 0 k + q') → q = q'
theorem gu_back {a b : Int32} {q : Nat} (h : b = a + nI q) : b - a = nI q := by
  rw [h, Int32.add_comm, Int32.add_sub_cancel]
theorem sp_digitOf2 (h : um m H) (e : ud m H = U) (hS : spx m U P f) (hk : k < P) (hR : VDF U P f) : mu_TI (mu_D (d + 1)) 263 [.inr (.inr (some 99)), .inl (nI k), .inl v] H (fun x H1 => ((x = -1 ∧ ∀ q, q < f k → ¬ (U.2.2.1 99 8).2 (sm f 0 k + q) = v) ∧ H1 = H) ∨ ((∃ q, q < f k ∧ x = nI q ∧ (U.2.2.1 99 8).2 (sm f 0 k + q) = v) ∧ H1 = H)) := by
  obtain ⟨⟨s4, s10, s11, s12⟩, hk5, ⟨g8, g8b, g18, g18b⟩, ⟨gP, gpd, gsm⟩, hsp, hmo⟩ := hS
  have hf := fun k hk => Nat.le_trans (show 1 ≤ 2 by decide) (hk5 k hk).2.2.2
  have hfk := sm_lt hf hk
  have hf2 := (hk5 k hk).2.2.2
  refine mu_meth (M := mu_m263) rfl rfl ?_
  refine mw_ht (mu_fn_of (show [0, 1, 2].Nodup by decide)) ?_
  refine mw_go mu_g263 (k := 2) (f1 := (4, [(0, .inr (.inr (some 99))), (1, .inl (nI k)), (2, .inl v)], [.inr (.inr (mu_r H 99 7))], H)) (C := [mu_is H (some 99) 13]) rfl (show mu_is H (some 99) 13 from (h.1.1.is rfl)) ?_
  rw [(h.1.1.r (p := 99) (j := 7) (q := 122) rfl)]
  refine mw_go mu_g263 (k := 2) (f1 := (6, [(0, .inr (.inr (some 99))), (1, .inl (nI k)), (2, .inl v)], [.inl (mu_i H 122 (nI k).toNatClampNeg)], H)) (C := [mu_isr H (some 122) 100, vp_in (nI k) (mu_n H 122)]) rfl (show (mu_isr H (some 122) 100) ∧ (vp_in (nI k) (mu_n H 122)) from ⟨((h.iA e rfl rfl ((ud_q (m := m) (P := 99) (j := 7) e rfl).symm.trans (h.1.1.r (p := 99) (j := 7) (q := 122) rfl)))).r, (by rw [show mu_n H 122 = 14 from (h.1.1.a (p := 122) (x := (100, 14)) rfl).2]; exact vp_in_nI (n := k) (by omega) (by decide))⟩) ?_
  rw [(show (mu_i H 122 (nI k).toNatClampNeg) = (nI (sm f 0 k)) from ((congrArg (mu_i H 122) (show (nI k).toNatClampNeg = k from nI_clamp (by omega))).trans (h.gA e rfl rfl ((ud_q (m := m) (P := 99) (j := 7) e rfl).symm.trans (h.1.1.r (p := 99) (j := 7) (q := 122) rfl)))).trans ((congrArg (fun z => z.2 k) (show U.2.2.1 99 7 = (U.2.2.1 99 7) from rfl)).trans (hk5 k (by omega)).2.1))]
  refine mw_go mu_g263 (k := 4) (f1 := (12, [(3, .inl (nI (sm f 0 k))), (0, .inr (.inr (some 99))), (1, .inl (nI k)), (2, .inl v)], [.inr (.inr (mu_r H 99 8)), .inl v], H)) (C := [mu_is H (some 99) 13]) rfl (show mu_is H (some 99) 13 from (h.1.1.is rfl)) ?_
  rw [(show mu_r H 99 8 = (U.2.2.2.1 99 8) from (ud_q (U := U) (m := m) (P := 99) (j := 8) e rfl))]
  refine mw_go mu_g263 (k := 2) (f1 := (14, [(3, .inl (nI (sm f 0 k))), (0, .inr (.inr (some 99))), (1, .inl (nI k)), (2, .inl v)], [.inl (mu_i H (mu_p (U.2.2.2.1 99 8)) (nI (sm f 0 k)).toNatClampNeg), .inl v], H)) (C := [mu_isr H (U.2.2.2.1 99 8) 100, vp_in (nI (sm f 0 k)) (mu_n H (mu_p (U.2.2.2.1 99 8)))]) rfl (show (mu_isr H (U.2.2.2.1 99 8) 100) ∧ (vp_in (nI (sm f 0 k)) (mu_n H (mu_p (U.2.2.2.1 99 8)))) from ⟨((h.iA e rfl rfl (show U.2.2.2.1 99 8 = (U.2.2.2.1 99 8) from rfl))).r, (h.vA (i := sm f 0 k) e rfl rfl (show U.2.2.2.1 99 8 = (U.2.2.2.1 99 8) from rfl) (show (U.2.2.1 99 8).1 = (U.2.2.1 99 8).1 from rfl) (by omega) (by omega))⟩) ?_
  rw [(show (mu_i H (mu_p (U.2.2.2.1 99 8)) (nI (sm f 0 k)).toNatClampNeg) = ((U.2.2.1 99 8).2 (sm f 0 k)) from ((congrArg (mu_i H (mu_p (U.2.2.2.1 99 8))) (show (nI (sm f 0 k)).toNatClampNeg = sm f 0 k from nI_clamp (by omega))).trans (h.gA e rfl rfl (show U.2.2.2.1 99 8 = (U.2.2.2.1 99 8) from rfl))).trans ((congrArg (fun z => z.2 (sm f 0 k)) (show U.2.2.1 99 8 = (U.2.2.1 99 8) from rfl)).trans rfl))]
  refine mw_go mu_g263 (k := 2) (f1 := (17, [(4, .inl (v - ((U.2.2.1 99 8).2 (sm f 0 k)))), (3, .inl (nI (sm f 0 k))), (0, .inr (.inr (some 99))), (1, .inl (nI k)), (2, .inl v)], [], H)) (C := []) rfl trivial ?_
  obtain ⟨gu, hgu⟩ : ∃ y, y = (v - ((U.2.2.1 99 8).2 (sm f 0 k))) := ⟨_, rfl⟩
  rw [← hgu]
  refine mw_go mu_g263 (k := 1) (f1 := (19, [(4, .inl gu), (3, .inl (nI (sm f 0 k))), (0, .inr (.inr (some 99))), (1, .inl (nI k)), (2, .inl v)], [.inl gu], H)) (C := []) rfl trivial ?_
  refine mw_if (P := gu < 0) (a := 49) (b := 22) (fun _ => rfl) trivial (fun h1 => ?_) (fun h1 => ?_)
  · -- 49: gu < 0
    refine mw_go mu_g263 (k := 2) (f1 := (53, [(4, .inl gu), (3, .inl (nI (sm f 0 k))), (0, .inr (.inr (some 99))), (1, .inl (nI k)), (2, .inl v)], [.inl (mu_i H 99 9)], H)) (C := [mu_is H (some 99) 13]) rfl (show mu_is H (some 99) 13 from (h.1.1.is rfl)) ?_
    rw [(show mu_i H 99 9 = (U.2.1 99 9) from (ud_i (U := U) (m := m) (P := 99) (j := 9) e rfl))]
    refine mw_go mu_g263 (k := 4) (f1 := (57, [(4, .inl gu), (3, .inl (nI (sm f 0 k))), (0, .inr (.inr (some 99))), (1, .inl (nI k)), (2, .inl v)], [.inl ((((U.2.1 99 9).toUInt32 >>> ((nI k).toUInt32 &&& Int32.toUInt32 31)).toInt32) &&& (1 : Int32))], H)) (C := []) rfl trivial ?_
    refine mw_if (P := ((((U.2.1 99 9).toUInt32 >>> ((nI k).toUInt32 &&& Int32.toUInt32 31)).toInt32) &&& (1 : Int32)) = 0) (a := 62) (b := 60) (fun _ => rfl) trivial (fun h2 => ?_) (fun h2 => ?_)
    · -- 62: ((((U.2.1 99 9).toUInt32 >>> ((nI k).toUInt32 &&& Int32.toUInt32 31)).toInt32) &&& (1 : Int32)) = 0
      refine mw_go mu_g263 (k := 2) (f1 := (65, [(5, .inl (0 : Int32)), (4, .inl gu), (3, .inl (nI (sm f 0 k))), (0, .inr (.inr (some 99))), (1, .inl (nI k)), (2, .inl v)], [], H)) (C := []) rfl trivial ?_
      show mu_W _ _ (65, [(5, .inl (nI 0)), (4, .inl gu), (3, .inl (nI (sm f 0 k))), (0, .inr (.inr (some 99))), (1, .inl (nI k)), (2, .inl v)], [], H) _
      refine mw_sub (L' := [(5, .inl (nI 0)), (0, .inr (.inr (some 99))), (1, .inl (nI k)), (2, .inl v), (3, .inl (nI (sm f 0 k)))]) (by simp) ?_
      refine mw_down (α := Nat) (fun zs => (65, [(5, .inl (nI zs)), (0, .inr (.inr (some 99))), (1, .inl (nI k)), (2, .inl v), (3, .inl (nI (sm f 0 k)))], [], H)) (fun zs => f k - zs) (fun zs => (zs ≤ f k) ∧ (∀ q2, q2 < zs → ¬ (U.2.2.1 99 8).2 (sm f 0 k + q2) = v)) (fun zs hza iha => ?_) 0 ⟨(show 0 ≤ f k from (by omega)), (show ∀ q2, q2 < 0 → ¬ (U.2.2.1 99 8).2 (sm f 0 k + q2) = v from (fun q2 hq2 => absurd hq2 (Nat.not_lt_zero _)))⟩
      obtain ⟨q, rfl⟩ : ∃ y, y = zs := ⟨zs, rfl⟩
      obtain ⟨hq, hno⟩ := hza
      have hq : q ≤ f k := hq
      have hno : ∀ q2, q2 < q → ¬ (U.2.2.1 99 8).2 (sm f 0 k + q2) = v := hno
      show mu_W _ _ (65, [(5, .inl (nI q)), (0, .inr (.inr (some 99))), (1, .inl (nI k)), (2, .inl v), (3, .inl (nI (sm f 0 k)))], [], H) _
      refine mw_go mu_g263 (k := 3) (f1 := (71, [(5, .inl (nI q)), (0, .inr (.inr (some 99))), (1, .inl (nI k)), (2, .inl v), (3, .inl (nI (sm f 0 k)))], [.inr (.inr (mu_r H 99 5)), .inl (nI q)], H)) (C := [mu_is H (some 99) 13]) rfl (show mu_is H (some 99) 13 from (h.1.1.is rfl)) ?_
      rw [(h.1.1.r (p := 99) (j := 5) (q := 120) rfl)]
      refine mw_go mu_g263 (k := 2) (f1 := (73, [(5, .inl (nI q)), (0, .inr (.inr (some 99))), (1, .inl (nI k)), (2, .inl v), (3, .inl (nI (sm f 0 k)))], [.inl (mu_i H 120 (nI k).toNatClampNeg), .inl (nI q)], H)) (C := [mu_isr H (some 120) 100, vp_in (nI k) (mu_n H 120)]) rfl (show (mu_isr H (some 120) 100) ∧ (vp_in (nI k) (mu_n H 120)) from ⟨((h.iA e rfl rfl ((ud_q (m := m) (P := 99) (j := 5) e rfl).symm.trans (h.1.1.r (p := 99) (j := 5) (q := 120) rfl)))).r, (by rw [show mu_n H 120 = 14 from (h.1.1.a (p := 120) (x := (100, 14)) rfl).2]; exact vp_in_nI (n := k) (by omega) (by decide))⟩) ?_
      rw [(show (mu_i H 120 (nI k).toNatClampNeg) = (nI (f k)) from ((congrArg (mu_i H 120) (show (nI k).toNatClampNeg = k from nI_clamp (by omega))).trans (h.gA e rfl rfl ((ud_q (m := m) (P := 99) (j := 5) e rfl).symm.trans (h.1.1.r (p := 99) (j := 5) (q := 120) rfl)))).trans ((congrArg (fun z => z.2 k) (show U.2.2.1 99 5 = (U.2.2.1 99 5) from rfl)).trans (hk5 k (by omega)).1))]
      refine mw_if (P := (nI q) < (nI (f k))) (a := 76) (b := 98) (fun _ => rfl) trivial (fun h3 => ?_) (fun h3 => ?_)
      · -- 76: (nI q) < (nI (f k))
        have nh3 : q < (f k) := (nI_ltI (by omega) (by omega)).mp (show nI q < nI (f k) from h3)
        refine mw_go mu_g263 (k := 2) (f1 := (80, [(5, .inl (nI q)), (0, .inr (.inr (some 99))), (1, .inl (nI k)), (2, .inl v), (3, .inl (nI (sm f 0 k)))], [.inr (.inr (mu_r H 99 8))], H)) (C := [mu_is H (some 99) 13]) rfl (show mu_is H (some 99) 13 from (h.1.1.is rfl)) ?_
        rw [(show mu_r H 99 8 = (U.2.2.2.1 99 8) from (ud_q (U := U) (m := m) (P := 99) (j := 8) e rfl))]
        refine mw_go mu_g263 (k := 3) (f1 := (84, [(5, .inl (nI q)), (0, .inr (.inr (some 99))), (1, .inl (nI k)), (2, .inl v), (3, .inl (nI (sm f 0 k)))], [.inl ((nI (sm f 0 k)) + (nI q)), .inr (.inr (U.2.2.2.1 99 8))], H)) (C := []) rfl trivial ?_
        rw [(show ((nI (sm f 0 k)) + (nI q)) = (nI ((sm f 0 k) + q)) from (nI_add (sm f 0 k) q))]
        refine mw_go mu_g263 (k := 1) (f1 := (85, [(5, .inl (nI q)), (0, .inr (.inr (some 99))), (1, .inl (nI k)), (2, .inl v), (3, .inl (nI (sm f 0 k)))], [.inl (mu_i H (mu_p (U.2.2.2.1 99 8)) (nI ((sm f 0 k) + q)).toNatClampNeg)], H)) (C := [mu_isr H (U.2.2.2.1 99 8) 100, vp_in (nI ((sm f 0 k) + q)) (mu_n H (mu_p (U.2.2.2.1 99 8)))]) rfl (show (mu_isr H (U.2.2.2.1 99 8) 100) ∧ (vp_in (nI ((sm f 0 k) + q)) (mu_n H (mu_p (U.2.2.2.1 99 8)))) from ⟨((h.iA e rfl rfl (show U.2.2.2.1 99 8 = (U.2.2.2.1 99 8) from rfl))).r, (h.vA (i := (sm f 0 k) + q) e rfl rfl (show U.2.2.2.1 99 8 = (U.2.2.2.1 99 8) from rfl) (show (U.2.2.1 99 8).1 = (U.2.2.1 99 8).1 from rfl) (by omega) (by omega))⟩) ?_
        rw [(show (mu_i H (mu_p (U.2.2.2.1 99 8)) (nI ((sm f 0 k) + q)).toNatClampNeg) = ((U.2.2.1 99 8).2 ((sm f 0 k) + q)) from ((congrArg (mu_i H (mu_p (U.2.2.2.1 99 8))) (show (nI ((sm f 0 k) + q)).toNatClampNeg = (sm f 0 k) + q from nI_clamp (by omega))).trans (h.gA e rfl rfl (show U.2.2.2.1 99 8 = (U.2.2.2.1 99 8) from rfl))).trans ((congrArg (fun z => z.2 ((sm f 0 k) + q)) (show U.2.2.1 99 8 = (U.2.2.1 99 8) from rfl)).trans rfl))]
        refine mw_go mu_g263 (k := 1) (f1 := (86, [(5, .inl (nI q)), (0, .inr (.inr (some 99))), (1, .inl (nI k)), (2, .inl v), (3, .inl (nI (sm f 0 k)))], [.inl v, .inl ((U.2.2.1 99 8).2 ((sm f 0 k) + q))], H)) (C := []) rfl trivial ?_
        refine mw_if (P := ((U.2.2.1 99 8).2 ((sm f 0 k) + q)) = v) (a := 89) (b := 92) (fun _ => rfl) trivial (fun h4 => ?_) (fun h4 => ?_)
        · -- 89: ((U.2.2.1 99 8).2 ((sm f 0 k) + q)) = v
          refine mw_go mu_g263 (k := 1) (f1 := (91, [(5, .inl (nI q)), (0, .inr (.inr (some 99))), (1, .inl (nI k)), (2, .inl v), (3, .inl (nI (sm f 0 k)))], [.inl (nI q)], H)) (C := []) rfl trivial ?_
          exact mw_of (fun _ => mu_ret rfl trivial ⟨_, _, rfl, Or.inr ⟨⟨q, (by omega), rfl, h4⟩, rfl⟩⟩)
        · -- 92: not ((U.2.2.1 99 8).2 ((sm f 0 k) + q)) = v
          refine mw_go mu_g263 (k := 1) (f1 := (95, [(5, .inl ((nI q) + 1)), (0, .inr (.inr (some 99))), (1, .inl (nI k)), (2, .inl v), (3, .inl (nI (sm f 0 k)))], [], H)) (C := []) rfl trivial ?_
          rw [(show ((nI q) + 1) = (nI (q + 1)) from (nI_add q 1))]
          refine mw_go mu_g263 (k := 1) (f1 := (65, [(5, .inl (nI (q + 1))), (0, .inr (.inr (some 99))), (1, .inl (nI k)), (2, .inl v), (3, .inl (nI (sm f 0 k)))], [], H)) (C := []) rfl trivial ?_
          exact mw_sub (by simp) (iha (q + 1) ⟨(show (q + 1) ≤ f k from (by omega)), (show ∀ q2, q2 < (q + 1) → ¬ (U.2.2.1 99 8).2 (sm f 0 k + q2) = v from (fun q2 hq2 y => by by_cases e0 : q2 = q; (rw [e0] at y; exact h4 y); exact hno q2 (by omega) y))⟩ (by show f k - (q + 1) < f k - q; omega))
      · -- 98: not (nI q) < (nI (f k))
        have nh3 : ¬ q < (f k) := fun z => h3 (show nI q < nI (f k) from (nI_ltI (by omega) (by omega)).mpr z)
        refine mw_go mu_g263 (k := 1) (f1 := (99, [(5, .inl (nI q)), (0, .inr (.inr (some 99))), (1, .inl (nI k)), (2, .inl v), (3, .inl (nI (sm f 0 k)))], [.inl (-1 : Int32)], H)) (C := []) rfl trivial ?_
        exact mw_of (fun _ => mu_ret rfl trivial ⟨_, _, rfl, Or.inl ⟨⟨rfl, fun q2 hq2 => hno q2 (by omega)⟩, rfl⟩⟩)
    · -- 60: not ((((U.2.1 99 9).toUInt32 >>> ((nI k).toUInt32 &&& Int32.toUInt32 31)).toInt32) &&& (1 : Int32)) = 0
      refine mw_go mu_g263 (k := 1) (f1 := (61, [(4, .inl gu), (3, .inl (nI (sm f 0 k))), (0, .inr (.inr (some 99))), (1, .inl (nI k)), (2, .inl v)], [.inl (-1 : Int32)], H)) (C := []) rfl trivial ?_
      exact mw_of (fun _ => mu_ret rfl trivial ⟨_, _, rfl, Or.inl ⟨⟨rfl, (fun q hq y => absurd (show gu < 0 from h1) (by rw [hgu, ← y, gu_back (hR.1 k hk h2 q hq)]; exact nI_pos (by omega)))⟩, rfl⟩⟩)
  · -- 22: not gu < 0
    refine mw_go mu_g263 (k := 3) (f1 := (28, [(4, .inl gu), (3, .inl (nI (sm f 0 k))), (0, .inr (.inr (some 99))), (1, .inl (nI k)), (2, .inl v)], [.inr (.inr (mu_r H 99 5)), .inl gu], H)) (C := [mu_is H (some 99) 13]) rfl (show mu_is H (some 99) 13 from (h.1.1.is rfl)) ?_
    rw [(h.1.1.r (p := 99) (j := 5) (q := 120) rfl)]
    refine mw_go mu_g263 (k := 2) (f1 := (30, [(4, .inl gu), (3, .inl (nI (sm f 0 k))), (0, .inr (.inr (some 99))), (1, .inl (nI k)), (2, .inl v)], [.inl (mu_i H 120 (nI k).toNatClampNeg), .inl gu], H)) (C := [mu_isr H (some 120) 100, vp_in (nI k) (mu_n H 120)]) rfl (show (mu_isr H (some 120) 100) ∧ (vp_in (nI k) (mu_n H 120)) from ⟨((h.iA e rfl rfl ((ud_q (m := m) (P := 99) (j := 5) e rfl).symm.trans (h.1.1.r (p := 99) (j := 5) (q := 120) rfl)))).r, (by rw [show mu_n H 120 = 14 from (h.1.1.a (p := 120) (x := (100, 14)) rfl).2]; exact vp_in_nI (n := k) (by omega) (by decide))⟩) ?_
    rw [(show (mu_i H 120 (nI k).toNatClampNeg) = (nI (f k)) from ((congrArg (mu_i H 120) (show (nI k).toNatClampNeg = k from nI_clamp (by omega))).trans (h.gA e rfl rfl ((ud_q (m := m) (P := 99) (j := 5) e rfl).symm.trans (h.1.1.r (p := 99) (j := 5) (q := 120) rfl)))).trans ((congrArg (fun z => z.2 k) (show U.2.2.1 99 5 = (U.2.2.1 99 5) from rfl)).trans (hk5 k (by omega)).1))]
    refine mw_if (P := gu < (nI (f k))) (a := 33) (b := 49) (fun _ => rfl) trivial (fun h5 => ?_) (fun h5 => ?_)
    · -- 33: gu < (nI (f k))
      obtain ⟨dd, hdd, rfl⟩ := nI_of h1
      have ndd : dd < f k := (nI_ltI hdd (by omega)).mp h5
      refine mw_go mu_g263 (k := 2) (f1 := (37, [(4, .inl (nI dd)), (3, .inl (nI (sm f 0 k))), (0, .inr (.inr (some 99))), (1, .inl (nI k)), (2, .inl v)], [.inr (.inr (mu_r H 99 8))], H)) (C := [mu_is H (some 99) 13]) rfl (show mu_is H (some 99) 13 from (h.1.1.is rfl)) ?_
      rw [(show mu_r H 99 8 = (U.2.2.2.1 99 8) from (ud_q (U := U) (m := m) (P := 99) (j := 8) e rfl))]
      refine mw_go mu_g263 (k := 3) (f1 := (41, [(4, .inl (nI dd)), (3, .inl (nI (sm f 0 k))), (0, .inr (.inr (some 99))), (1, .inl (nI k)), (2, .inl v)], [.inl ((nI (sm f 0 k)) + (nI dd)), .inr (.inr (U.2.2.2.1 99 8))], H)) (C := []) rfl trivial ?_
      rw [(show ((nI (sm f 0 k)) + (nI dd)) = (nI ((sm f 0 k) + dd)) from (nI_add (sm f 0 k) dd))]
      refine mw_go mu_g263 (k := 1) (f1 := (42, [(4, .inl (nI dd)), (3, .inl (nI (sm f 0 k))), (0, .inr (.inr (some 99))), (1, .inl (nI k)), (2, .inl v)], [.inl (mu_i H (mu_p (U.2.2.2.1 99 8)) (nI ((sm f 0 k) + dd)).toNatClampNeg)], H)) (C := [mu_isr H (U.2.2.2.1 99 8) 100, vp_in (nI ((sm f 0 k) + dd)) (mu_n H (mu_p (U.2.2.2.1 99 8)))]) rfl (show (mu_isr H (U.2.2.2.1 99 8) 100) ∧ (vp_in (nI ((sm f 0 k) + dd)) (mu_n H (mu_p (U.2.2.2.1 99 8)))) from ⟨((h.iA e rfl rfl (show U.2.2.2.1 99 8 = (U.2.2.2.1 99 8) from rfl))).r, (h.vA (i := (sm f 0 k) + dd) e rfl rfl (show U.2.2.2.1 99 8 = (U.2.2.2.1 99 8) from rfl) (show (U.2.2.1 99 8).1 = (U.2.2.1 99 8).1 from rfl) (by omega) (by omega))⟩) ?_
      rw [(show (mu_i H (mu_p (U.2.2.2.1 99 8)) (nI ((sm f 0 k) + dd)).toNatClampNeg) = ((U.2.2.1 99 8).2 ((sm f 0 k) + dd)) from ((congrArg (mu_i H (mu_p (U.2.2.2.1 99 8))) (show (nI ((sm f 0 k) + dd)).toNatClampNeg = (sm f 0 k) + dd from nI_clamp (by omega))).trans (h.gA e rfl rfl (show U.2.2.2.1 99 8 = (U.2.2.2.1 99 8) from rfl))).trans ((congrArg (fun z => z.2 ((sm f 0 k) + dd)) (show U.2.2.1 99 8 = (U.2.2.1 99 8) from rfl)).trans rfl))]
      refine mw_go mu_g263 (k := 1) (f1 := (43, [(4, .inl (nI dd)), (3, .inl (nI (sm f 0 k))), (0, .inr (.inr (some 99))), (1, .inl (nI k)), (2, .inl v)], [.inl v, .inl ((U.2.2.1 99 8).2 ((sm f 0 k) + dd))], H)) (C := []) rfl trivial ?_
      refine mw_if (P := ((U.2.2.1 99 8).2 ((sm f 0 k) + dd)) = v) (a := 46) (b := 49) (fun _ => rfl) trivial (fun h6 => ?_) (fun h6 => ?_)
      · -- 46: ((U.2.2.1 99 8).2 ((sm f 0 k) + dd)) = v
        refine mw_go mu_g263 (k := 1) (f1 := (48, [(4, .inl (nI dd)), (3, .inl (nI (sm f 0 k))), (0, .inr (.inr (some 99))), (1, .inl (nI k)), (2, .inl v)], [.inl (nI dd)], H)) (C := []) rfl trivial ?_
        exact mw_of (fun _ => mu_ret rfl trivial ⟨_, _, rfl, Or.inr ⟨⟨dd, (by omega), rfl, h6⟩, rfl⟩⟩)
      · -- 49: not ((U.2.2.1 99 8).2 ((sm f 0 k) + dd)) = v
        refine mw_go mu_g263 (k := 2) (f1 := (53, [(4, .inl (nI dd)), (3, .inl (nI (sm f 0 k))), (0, .inr (.inr (some 99))), (1, .inl (nI k)), (2, .inl v)], [.inl (mu_i H 99 9)], H)) (C := [mu_is H (some 99) 13]) rfl (show mu_is H (some 99) 13 from (h.1.1.is rfl)) ?_
        rw [(show mu_i H 99 9 = (U.2.1 99 9) from (ud_i (U := U) (m := m) (P := 99) (j := 9) e rfl))]
        refine mw_go mu_g263 (k := 4) (f1 := (57, [(4, .inl (nI dd)), (3, .inl (nI (sm f 0 k))), (0, .inr (.inr (some 99))), (1, .inl (nI k)), (2, .inl v)], [.inl ((((U.2.1 99 9).toUInt32 >>> ((nI k).toUInt32 &&& Int32.toUInt32 31)).toInt32) &&& (1 : Int32))], H)) (C := []) rfl trivial ?_
        refine mw_if (P := ((((U.2.1 99 9).toUInt32 >>> ((nI k).toUInt32 &&& Int32.toUInt32 31)).toInt32) &&& (1 : Int32)) = 0) (a := 62) (b := 60) (fun _ => rfl) trivial (fun h7 => ?_) (fun h7 => ?_)
        · -- 62: ((((U.2.1 99 9).toUInt32 >>> ((nI k).toUInt32 &&& Int32.toUInt32 31)).toInt32) &&& (1 : Int32)) = 0
          refine mw_go mu_g263 (k := 2) (f1 := (65, [(5, .inl (0 : Int32)), (4, .inl (nI dd)), (3, .inl (nI (sm f 0 k))), (0, .inr (.inr (some 99))), (1, .inl (nI k)), (2, .inl v)], [], H)) (C := []) rfl trivial ?_
          show mu_W _ _ (65, [(5, .inl (nI 0)), (4, .inl (nI dd)), (3, .inl (nI (sm f 0 k))), (0, .inr (.inr (some 99))), (1, .inl (nI k)), (2, .inl v)], [], H) _
          refine mw_sub (L' := [(5, .inl (nI 0)), (0, .inr (.inr (some 99))), (1, .inl (nI k)), (2, .inl v), (3, .inl (nI (sm f 0 k)))]) (by simp) ?_
          refine mw_down (α := Nat) (fun zs => (65, [(5, .inl (nI zs)), (0, .inr (.inr (some 99))), (1, .inl (nI k)), (2, .inl v), (3, .inl (nI (sm f 0 k)))], [], H)) (fun zs => f k - zs) (fun zs => (zs ≤ f k) ∧ (∀ q2, q2 < zs → ¬ (U.2.2.1 99 8).2 (sm f 0 k + q2) = v)) (fun zs hza iha => ?_) 0 ⟨(show 0 ≤ f k from (by omega)), (show ∀ q2, q2 < 0 → ¬ (U.2.2.1 99 8).2 (sm f 0 k + q2) = v from (fun q2 hq2 => absurd hq2 (Nat.not_lt_zero _)))⟩
          obtain ⟨q, rfl⟩ : ∃ y, y = zs := ⟨zs, rfl⟩
          obtain ⟨hq, hno⟩ := hza
          have hq : q ≤ f k := hq
          have hno : ∀ q2, q2 < q → ¬ (U.2.2.1 99 8).2 (sm f 0 k + q2) = v := hno
          show mu_W _ _ (65, [(5, .inl (nI q)), (0, .inr (.inr (some 99))), (1, .inl (nI k)), (2, .inl v), (3, .inl (nI (sm f 0 k)))], [], H) _
          refine mw_go mu_g263 (k := 3) (f1 := (71, [(5, .inl (nI q)), (0, .inr (.inr (some 99))), (1, .inl (nI k)), (2, .inl v), (3, .inl (nI (sm f 0 k)))], [.inr (.inr (mu_r H 99 5)), .inl (nI q)], H)) (C := [mu_is H (some 99) 13]) rfl (show mu_is H (some 99) 13 from (h.1.1.is rfl)) ?_
          rw [(h.1.1.r (p := 99) (j := 5) (q := 120) rfl)]
          refine mw_go mu_g263 (k := 2) (f1 := (73, [(5, .inl (nI q)), (0, .inr (.inr (some 99))), (1, .inl (nI k)), (2, .inl v), (3, .inl (nI (sm f 0 k)))], [.inl (mu_i H 120 (nI k).toNatClampNeg), .inl (nI q)], H)) (C := [mu_isr H (some 120) 100, vp_in (nI k) (mu_n H 120)]) rfl (show (mu_isr H (some 120) 100) ∧ (vp_in (nI k) (mu_n H 120)) from ⟨((h.iA e rfl rfl ((ud_q (m := m) (P := 99) (j := 5) e rfl).symm.trans (h.1.1.r (p := 99) (j := 5) (q := 120) rfl)))).r, (by rw [show mu_n H 120 = 14 from (h.1.1.a (p := 120) (x := (100, 14)) rfl).2]; exact vp_in_nI (n := k) (by omega) (by decide))⟩) ?_
          rw [(show (mu_i H 120 (nI k).toNatClampNeg) = (nI (f k)) from ((congrArg (mu_i H 120) (show (nI k).toNatClampNeg = k from nI_clamp (by omega))).trans (h.gA e rfl rfl ((ud_q (m := m) (P := 99) (j := 5) e rfl).symm.trans (h.1.1.r (p := 99) (j := 5) (q := 120) rfl)))).trans ((congrArg (fun z => z.2 k) (show U.2.2.1 99 5 = (U.2.2.1 99 5) from rfl)).trans (hk5 k (by omega)).1))]
          refine mw_if (P := (nI q) < (nI (f k))) (a := 76) (b := 98) (fun _ => rfl) trivial (fun h8 => ?_) (fun h8 => ?_)
          · -- 76: (nI q) < (nI (f k))
            have nh8 : q < (f k) := (nI_ltI (by omega) (by omega)).mp (show nI q < nI (f k) from h8)
            refine mw_go mu_g263 (k := 2) (f1 := (80, [(5, .inl (nI q)), (0, .inr (.inr (some 99))), (1, .inl (nI k)), (2, .inl v), (3, .inl (nI (sm f 0 k)))], [.inr (.inr (mu_r H 99 8))], H)) (C := [mu_is H (some 99) 13]) rfl (show mu_is H (some 99) 13 from (h.1.1.is rfl)) ?_
            rw [(show mu_r H 99 8 = (U.2.2.2.1 99 8) from (ud_q (U := U) (m := m) (P := 99) (j := 8) e rfl))]
            refine mw_go mu_g263 (k := 3) (f1 := (84, [(5, .inl (nI q)), (0, .inr (.inr (some 99))), (1, .inl (nI k)), (2, .inl v), (3, .inl (nI (sm f 0 k)))], [.inl ((nI (sm f 0 k)) + (nI q)), .inr (.inr (U.2.2.2.1 99 8))], H)) (C := []) rfl trivial ?_
            rw [(show ((nI (sm f 0 k)) + (nI q)) = (nI ((sm f 0 k) + q)) from (nI_add (sm f 0 k) q))]
            refine mw_go mu_g263 (k := 1) (f1 := (85, [(5, .inl (nI q)), (0, .inr (.inr (some 99))), (1, .inl (nI k)), (2, .inl v), (3, .inl (nI (sm f 0 k)))], [.inl (mu_i H (mu_p (U.2.2.2.1 99 8)) (nI ((sm f 0 k) + q)).toNatClampNeg)], H)) (C := [mu_isr H (U.2.2.2.1 99 8) 100, vp_in (nI ((sm f 0 k) + q)) (mu_n H (mu_p (U.2.2.2.1 99 8)))]) rfl (show (mu_isr H (U.2.2.2.1 99 8) 100) ∧ (vp_in (nI ((sm f 0 k) + q)) (mu_n H (mu_p (U.2.2.2.1 99 8)))) from ⟨((h.iA e rfl rfl (show U.2.2.2.1 99 8 = (U.2.2.2.1 99 8) from rfl))).r, (h.vA (i := (sm f 0 k) + q) e rfl rfl (show U.2.2.2.1 99 8 = (U.2.2.2.1 99 8) from rfl) (show (U.2.2.1 99 8).1 = (U.2.2.1 99 8).1 from rfl) (by omega) (by omega))⟩) ?_
            rw [(show (mu_i H (mu_p (U.2.2.2.1 99 8)) (nI ((sm f 0 k) + q)).toNatClampNeg) = ((U.2.2.1 99 8).2 ((sm f 0 k) + q)) from ((congrArg (mu_i H (mu_p (U.2.2.2.1 99 8))) (show (nI ((sm f 0 k) + q)).toNatClampNeg = (sm f 0 k) + q from nI_clamp (by omega))).trans (h.gA e rfl rfl (show U.2.2.2.1 99 8 = (U.2.2.2.1 99 8) from rfl))).trans ((congrArg (fun z => z.2 ((sm f 0 k) + q)) (show U.2.2.1 99 8 = (U.2.2.1 99 8) from rfl)).trans rfl))]
            refine mw_go mu_g263 (k := 1) (f1 := (86, [(5, .inl (nI q)), (0, .inr (.inr (some 99))), (1, .inl (nI k)), (2, .inl v), (3, .inl (nI (sm f 0 k)))], [.inl v, .inl ((U.2.2.1 99 8).2 ((sm f 0 k) + q))], H)) (C := []) rfl trivial ?_
            refine mw_if (P := ((U.2.2.1 99 8).2 ((sm f 0 k) + q)) = v) (a := 89) (b := 92) (fun _ => rfl) trivial (fun h9 => ?_) (fun h9 => ?_)
            · -- 89: ((U.2.2.1 99 8).2 ((sm f 0 k) + q)) = v
              refine mw_go mu_g263 (k := 1) (f1 := (91, [(5, .inl (nI q)), (0, .inr (.inr (some 99))), (1, .inl (nI k)), (2, .inl v), (3, .inl (nI (sm f 0 k)))], [.inl (nI q)], H)) (C := []) rfl trivial ?_
              exact mw_of (fun _ => mu_ret rfl trivial ⟨_, _, rfl, Or.inr ⟨⟨q, (by omega), rfl, h9⟩, rfl⟩⟩)
            · -- 92: not ((U.2.2.1 99 8).2 ((sm f 0 k) + q)) = v
              refine mw_go mu_g263 (k := 1) (f1 := (95, [(5, .inl ((nI q) + 1)), (0, .inr (.inr (some 99))), (1, .inl (nI k)), (2, .inl v), (3, .inl (nI (sm f 0 k)))], [], H)) (C := []) rfl trivial ?_
              rw [(show ((nI q) + 1) = (nI (q + 1)) from (nI_add q 1))]
              refine mw_go mu_g263 (k := 1) (f1 := (65, [(5, .inl (nI (q + 1))), (0, .inr (.inr (some 99))), (1, .inl (nI k)), (2, .inl v), (3, .inl (nI (sm f 0 k)))], [], H)) (C := []) rfl trivial ?_
              exact mw_sub (by simp) (iha (q + 1) ⟨(show (q + 1) ≤ f k from (by omega)), (show ∀ q2, q2 < (q + 1) → ¬ (U.2.2.1 99 8).2 (sm f 0 k + q2) = v from (fun q2 hq2 y => by by_cases e0 : q2 = q; (rw [e0] at y; exact h9 y); exact hno q2 (by omega) y))⟩ (by show f k - (q + 1) < f k - q; omega))
          · -- 98: not (nI q) < (nI (f k))
            have nh8 : ¬ q < (f k) := fun z => h8 (show nI q < nI (f k) from (nI_ltI (by omega) (by omega)).mpr z)
            refine mw_go mu_g263 (k := 1) (f1 := (99, [(5, .inl (nI q)), (0, .inr (.inr (some 99))), (1, .inl (nI k)), (2, .inl v), (3, .inl (nI (sm f 0 k)))], [.inl (-1 : Int32)], H)) (C := []) rfl trivial ?_
            exact mw_of (fun _ => mu_ret rfl trivial ⟨_, _, rfl, Or.inl ⟨⟨rfl, fun q2 hq2 => hno q2 (by omega)⟩, rfl⟩⟩)
        · -- 60: not ((((U.2.1 99 9).toUInt32 >>> ((nI k).toUInt32 &&& Int32.toUInt32 31)).toInt32) &&& (1 : Int32)) = 0
          refine mw_go mu_g263 (k := 1) (f1 := (61, [(4, .inl (nI dd)), (3, .inl (nI (sm f 0 k))), (0, .inr (.inr (some 99))), (1, .inl (nI k)), (2, .inl v)], [.inl (-1 : Int32)], H)) (C := []) rfl trivial ?_
          exact mw_of (fun _ => mu_ret rfl trivial ⟨_, _, rfl, Or.inl ⟨⟨rfl, (fun q hq y => h6 (by rw [show dd = q from nI_inj hdd (by omega) (hgu.trans (by rw [← y]; exact gu_back (hR.1 k hk h7 q hq)))]; exact y))⟩, rfl⟩⟩)
    · -- 49: not gu < (nI (f k))
      refine mw_go mu_g263 (k := 2) (f1 := (53, [(4, .inl gu), (3, .inl (nI (sm f 0 k))), (0, .inr (.inr (some 99))), (1, .inl (nI k)), (2, .inl v)], [.inl (mu_i H 99 9)], H)) (C := [mu_is H (some 99) 13]) rfl (show mu_is H (some 99) 13 from (h.1.1.is rfl)) ?_
      rw [(show mu_i H 99 9 = (U.2.1 99 9) from (ud_i (U := U) (m := m) (P := 99) (j := 9) e rfl))]
      refine mw_go mu_g263 (k := 4) (f1 := (57, [(4, .inl gu), (3, .inl (nI (sm f 0 k))), (0, .inr (.inr (some 99))), (1, .inl (nI k)), (2, .inl v)], [.inl ((((U.2.1 99 9).toUInt32 >>> ((nI k).toUInt32 &&& Int32.toUInt32 31)).toInt32) &&& (1 : Int32))], H)) (C := []) rfl trivial ?_
      refine mw_if (P := ((((U.2.1 99 9).toUInt32 >>> ((nI k).toUInt32 &&& Int32.toUInt32 31)).toInt32) &&& (1 : Int32)) = 0) (a := 62) (b := 60) (fun _ => rfl) trivial (fun h10 => ?_) (fun h10 => ?_)
      · -- 62: ((((U.2.1 99 9).toUInt32 >>> ((nI k).toUInt32 &&& Int32.toUInt32 31)).toInt32) &&& (1 : Int32)) = 0
        refine mw_go mu_g263 (k := 2) (f1 := (65, [(5, .inl (0 : Int32)), (4, .inl gu), (3, .inl (nI (sm f 0 k))), (0, .inr (.inr (some 99))), (1, .inl (nI k)), (2, .inl v)], [], H)) (C := []) rfl trivial ?_
        show mu_W _ _ (65, [(5, .inl (nI 0)), (4, .inl gu), (3, .inl (nI (sm f 0 k))), (0, .inr (.inr (some 99))), (1, .inl (nI k)), (2, .inl v)], [], H) _
        refine mw_sub (L' := [(5, .inl (nI 0)), (0, .inr (.inr (some 99))), (1, .inl (nI k)), (2, .inl v), (3, .inl (nI (sm f 0 k)))]) (by simp) ?_
        refine mw_down (α := Nat) (fun zs => (65, [(5, .inl (nI zs)), (0, .inr (.inr (some 99))), (1, .inl (nI k)), (2, .inl v), (3, .inl (nI (sm f 0 k)))], [], H)) (fun zs => f k - zs) (fun zs => (zs ≤ f k) ∧ (∀ q2, q2 < zs → ¬ (U.2.2.1 99 8).2 (sm f 0 k + q2) = v)) (fun zs hza iha => ?_) 0 ⟨(show 0 ≤ f k from (by omega)), (show ∀ q2, q2 < 0 → ¬ (U.2.2.1 99 8).2 (sm f 0 k + q2) = v from (fun q2 hq2 => absurd hq2 (Nat.not_lt_zero _)))⟩
        obtain ⟨q, rfl⟩ : ∃ y, y = zs := ⟨zs, rfl⟩
        obtain ⟨hq, hno⟩ := hza
        have hq : q ≤ f k := hq
        have hno : ∀ q2, q2 < q → ¬ (U.2.2.1 99 8).2 (sm f 0 k + q2) = v := hno
        show mu_W _ _ (65, [(5, .inl (nI q)), (0, .inr (.inr (some 99))), (1, .inl (nI k)), (2, .inl v), (3, .inl (nI (sm f 0 k)))], [], H) _
        refine mw_go mu_g263 (k := 3) (f1 := (71, [(5, .inl (nI q)), (0, .inr (.inr (some 99))), (1, .inl (nI k)), (2, .inl v), (3, .inl (nI (sm f 0 k)))], [.inr (.inr (mu_r H 99 5)), .inl (nI q)], H)) (C := [mu_is H (some 99) 13]) rfl (show mu_is H (some 99) 13 from (h.1.1.is rfl)) ?_
        rw [(h.1.1.r (p := 99) (j := 5) (q := 120) rfl)]
        refine mw_go mu_g263 (k := 2) (f1 := (73, [(5, .inl (nI q)), (0, .inr (.inr (some 99))), (1, .inl (nI k)), (2, .inl v), (3, .inl (nI (sm f 0 k)))], [.inl (mu_i H 120 (nI k).toNatClampNeg), .inl (nI q)], H)) (C := [mu_isr H (some 120) 100, vp_in (nI k) (mu_n H 120)]) rfl (show (mu_isr H (some 120) 100) ∧ (vp_in (nI k) (mu_n H 120)) from ⟨((h.iA e rfl rfl ((ud_q (m := m) (P := 99) (j := 5) e rfl).symm.trans (h.1.1.r (p := 99) (j := 5) (q := 120) rfl)))).r, (by rw [show mu_n H 120 = 14 from (h.1.1.a (p := 120) (x := (100, 14)) rfl).2]; exact vp_in_nI (n := k) (by omega) (by decide))⟩) ?_
        rw [(show (mu_i H 120 (nI k).toNatClampNeg) = (nI (f k)) from ((congrArg (mu_i H 120) (show (nI k).toNatClampNeg = k from nI_clamp (by omega))).trans (h.gA e rfl rfl ((ud_q (m := m) (P := 99) (j := 5) e rfl).symm.trans (h.1.1.r (p := 99) (j := 5) (q := 120) rfl)))).trans ((congrArg (fun z => z.2 k) (show U.2.2.1 99 5 = (U.2.2.1 99 5) from rfl)).trans (hk5 k (by omega)).1))]
        refine mw_if (P := (nI q) < (nI (f k))) (a := 76) (b := 98) (fun _ => rfl) trivial (fun h11 => ?_) (fun h11 => ?_)
        · -- 76: (nI q) < (nI (f k))
          have nh11 : q < (f k) := (nI_ltI (by omega) (by omega)).mp (show nI q < nI (f k) from h11)
          refine mw_go mu_g263 (k := 2) (f1 := (80, [(5, .inl (nI q)), (0, .inr (.inr (some 99))), (1, .inl (nI k)), (2, .inl v), (3, .inl (nI (sm f 0 k)))], [.inr (.inr (mu_r H 99 8))], H)) (C := [mu_is H (some 99) 13]) rfl (show mu_is H (some 99) 13 from (h.1.1.is rfl)) ?_
          rw [(show mu_r H 99 8 = (U.2.2.2.1 99 8) from (ud_q (U := U) (m := m) (P := 99) (j := 8) e rfl))]
          refine mw_go mu_g263 (k := 3) (f1 := (84, [(5, .inl (nI q)), (0, .inr (.inr (some 99))), (1, .inl (nI k)), (2, .inl v), (3, .inl (nI (sm f 0 k)))], [.inl ((nI (sm f 0 k)) + (nI q)), .inr (.inr (U.2.2.2.1 99 8))], H)) (C := []) rfl trivial ?_
          rw [(show ((nI (sm f 0 k)) + (nI q)) = (nI ((sm f 0 k) + q)) from (nI_add (sm f 0 k) q))]
          refine mw_go mu_g263 (k := 1) (f1 := (85, [(5, .inl (nI q)), (0, .inr (.inr (some 99))), (1, .inl (nI k)), (2, .inl v), (3, .inl (nI (sm f 0 k)))], [.inl (mu_i H (mu_p (U.2.2.2.1 99 8)) (nI ((sm f 0 k) + q)).toNatClampNeg)], H)) (C := [mu_isr H (U.2.2.2.1 99 8) 100, vp_in (nI ((sm f 0 k) + q)) (mu_n H (mu_p (U.2.2.2.1 99 8)))]) rfl (show (mu_isr H (U.2.2.2.1 99 8) 100) ∧ (vp_in (nI ((sm f 0 k) + q)) (mu_n H (mu_p (U.2.2.2.1 99 8)))) from ⟨((h.iA e rfl rfl (show U.2.2.2.1 99 8 = (U.2.2.2.1 99 8) from rfl))).r, (h.vA (i := (sm f 0 k) + q) e rfl rfl (show U.2.2.2.1 99 8 = (U.2.2.2.1 99 8) from rfl) (show (U.2.2.1 99 8).1 = (U.2.2.1 99 8).1 from rfl) (by omega) (by omega))⟩) ?_
          rw [(show (mu_i H (mu_p (U.2.2.2.1 99 8)) (nI ((sm f 0 k) + q)).toNatClampNeg) = ((U.2.2.1 99 8).2 ((sm f 0 k) + q)) from ((congrArg (mu_i H (mu_p (U.2.2.2.1 99 8))) (show (nI ((sm f 0 k) + q)).toNatClampNeg = (sm f 0 k) + q from nI_clamp (by omega))).trans (h.gA e rfl rfl (show U.2.2.2.1 99 8 = (U.2.2.2.1 99 8) from rfl))).trans ((congrArg (fun z => z.2 ((sm f 0 k) + q)) (show U.2.2.1 99 8 = (U.2.2.1 99 8) from rfl)).trans rfl))]
          refine mw_go mu_g263 (k := 1) (f1 := (86, [(5, .inl (nI q)), (0, .inr (.inr (some 99))), (1, .inl (nI k)), (2, .inl v), (3, .inl (nI (sm f 0 k)))], [.inl v, .inl ((U.2.2.1 99 8).2 ((sm f 0 k) + q))], H)) (C := []) rfl trivial ?_
          refine mw_if (P := ((U.2.2.1 99 8).2 ((sm f 0 k) + q)) = v) (a := 89) (b := 92) (fun _ => rfl) trivial (fun h12 => ?_) (fun h12 => ?_)
          · -- 89: ((U.2.2.1 99 8).2 ((sm f 0 k) + q)) = v
            refine mw_go mu_g263 (k := 1) (f1 := (91, [(5, .inl (nI q)), (0, .inr (.inr (some 99))), (1, .inl (nI k)), (2, .inl v), (3, .inl (nI (sm f 0 k)))], [.inl (nI q)], H)) (C := []) rfl trivial ?_
            exact mw_of (fun _ => mu_ret rfl trivial ⟨_, _, rfl, Or.inr ⟨⟨q, (by omega), rfl, h12⟩, rfl⟩⟩)
          · -- 92: not ((U.2.2.1 99 8).2 ((sm f 0 k) + q)) = v
            refine mw_go mu_g263 (k := 1) (f1 := (95, [(5, .inl ((nI q) + 1)), (0, .inr (.inr (some 99))), (1, .inl (nI k)), (2, .inl v), (3, .inl (nI (sm f 0 k)))], [], H)) (C := []) rfl trivial ?_
            rw [(show ((nI q) + 1) = (nI (q + 1)) from (nI_add q 1))]
            refine mw_go mu_g263 (k := 1) (f1 := (65, [(5, .inl (nI (q + 1))), (0, .inr (.inr (some 99))), (1, .inl (nI k)), (2, .inl v), (3, .inl (nI (sm f 0 k)))], [], H)) (C := []) rfl trivial ?_
            exact mw_sub (by simp) (iha (q + 1) ⟨(show (q + 1) ≤ f k from (by omega)), (show ∀ q2, q2 < (q + 1) → ¬ (U.2.2.1 99 8).2 (sm f 0 k + q2) = v from (fun q2 hq2 y => by by_cases e0 : q2 = q; (rw [e0] at y; exact h12 y); exact hno q2 (by omega) y))⟩ (by show f k - (q + 1) < f k - q; omega))
        · -- 98: not (nI q) < (nI (f k))
          have nh11 : ¬ q < (f k) := fun z => h11 (show nI q < nI (f k) from (nI_ltI (by omega) (by omega)).mpr z)
          refine mw_go mu_g263 (k := 1) (f1 := (99, [(5, .inl (nI q)), (0, .inr (.inr (some 99))), (1, .inl (nI k)), (2, .inl v), (3, .inl (nI (sm f 0 k)))], [.inl (-1 : Int32)], H)) (C := []) rfl trivial ?_
          exact mw_of (fun _ => mu_ret rfl trivial ⟨_, _, rfl, Or.inl ⟨⟨rfl, fun q2 hq2 => hno q2 (by omega)⟩, rfl⟩⟩)
      · -- 60: not ((((U.2.1 99 9).toUInt32 >>> ((nI k).toUInt32 &&& Int32.toUInt32 31)).toInt32) &&& (1 : Int32)) = 0
        refine mw_go mu_g263 (k := 1) (f1 := (61, [(4, .inl gu), (3, .inl (nI (sm f 0 k))), (0, .inr (.inr (some 99))), (1, .inl (nI k)), (2, .inl v)], [.inl (-1 : Int32)], H)) (C := []) rfl trivial ?_
        exact mw_of (fun _ => mu_ret rfl trivial ⟨_, _, rfl, Or.inl ⟨⟨rfl, (fun q hq y => h5 (by rw [hgu, ← y, gu_back (hR.1 k hk h10 q hq)]; exact (nI_ltI (by omega) (by omega)).mpr hq))⟩, rfl⟩⟩)
/-- the Machine is left as it was -/
def MCQ (U V : Ud) : Prop := (∀ j, V.2.1 100 j = U.2.1 100 j) ∧ (∀ J, V.2.2.1 100 J = U.2.2.1 100 J) ∧ ∀ J, V.2.2.2.1 100 J = U.2.2.2.1 100 J
/-- it gives K choices in a lane -/
def CHV (m : Nat) (U : Ud) (lane K : Nat) (cv : Nat → Int32) : Prop := ∀ (d : Nat) (H : mu_H) (V : Ud), um m H → ud m H = V → MCQ U V → mu_TI (mu_D (d + 2)) 214 [.inr (.inr (some 100)), .inl (nI lane)] H (fun x H1 => x = nI K ∧ H1 = H) ∧ ∀ k, k < K → mu_TI (mu_D (d + 2)) 215 [.inr (.inr (some 100)), .inl (nI lane), .inl (nI k)] H (fun x H1 => x = cv k ∧ H1 = H)
/-- a digit of a place is chosen -/
def CHD (U : Ud) (f : Nat → Nat) (k K : Nat) (cv : Nat → Int32) (x : Nat) : Prop := ∃ i, i < K ∧ cv i = (U.2.2.1 99 8).2 (sm f 0 k + x)
def F283 : Uf := ⟨[], [(129, 11), (129, 19), (129, 20)], [(129, 10)], [], [146], false⟩
theorem chd_s {y q t : Nat} {L : Nat → Int64} (hq : q < f k) (hv : (U.2.2.1 99 8).2 (sm f 0 k + q) = cv y) (hu : ∀ q2, q2 < f k → (U.2.2.1 99 8).2 (sm f 0 k + q2) = cv y → q2 = q) (hfk : f k ≤ 16384) (hB : ∀ t, t < 16384 → (bts L t = true ↔ t < f k ∧ CHD U f k y cv t)) (ht : t < 16384) : (bts (fun i => if i = q / 64 then L (q / 64) ||| ((1 : Int64) <<< ((nI q).toInt64 &&& 63)) else L i) t = true) = (t < f k ∧ CHD U f k (y + 1) cv t) := by
  apply propext
  have e1 : bts (fun i => if i = q / 64 then L (q / 64) ||| ((1 : Int64) <<< ((nI q).toInt64 &&& 63)) else L i) t = true ↔ bts L t = true ∨ t = q := by
    show btz (if t / 64 = q / 64 then L (q / 64) ||| ((1 : Int64) <<< ((nI q).toInt64 &&& 63)) else L (t / 64)) (t % 64) = true ↔ btz (L (t / 64)) (t % 64) = true ∨ t = q
    by_cases e : t / 64 = q / 64
    · rw [if_pos e, e, btz_one1 (by omega) (Nat.mod_lt _ (by decide))]
      constructor
      · rintro (h | h)
        · exact Or.inl h
        · exact Or.inr (by omega)
      · rintro (h | h)
        · exact Or.inl h
        · exact Or.inr (by omega)
    · rw [if_neg e]
      constructor
      · exact Or.inl
      · rintro (h | h)
        · exact h
        · exact absurd (by rw [h]) e
  rw [e1, hB t ht]
  constructor
  · rintro (⟨a, i, i1, i2⟩ | a)
    · exact ⟨a, i, by omega, i2⟩
    · exact ⟨by omega, y, by omega, by rw [a]; exact hv.symm⟩
  · rintro ⟨a, i, i1, i2⟩
    by_cases e : i = y
    · rw [e] at i2
      exact Or.inr (hu t a i2.symm)
    · exact Or.inl ⟨a, i, by omega, i2⟩
def F283a : Uf := ⟨[], [], [], [], [146], false⟩
/-- PathProver$Relation.listDigits(II)V -/
abbrev mu_m283 : ev_M := (7, none, [], ev_b283)
theorem mu_g283 : mu_good mu_m283 := mu_goodk ev_k283
theorem rl_listd (h : um m H) (e : ud m H = U) (hS : spx m U P f) (hk : k < P) (hR : VDF U P f) (hz : BZ U bf bt) (hCH : CHV m U lane K cv) (hK : K < 2147483648) (hl10 : pd f 0 P + 4 ≤ (U.2.2.1 129 10).1) (hl10b : (U.2.2.1 129 10).1 < 2147483648) (hfT : f k ≤ pd f 0 P) : mu_TV (mu_D (d + 4)) 283 [.inr (.inr (some 129)), .inl (nI k), .inl (nI lane)] H (fun H1 => um m H1 ∧ ur m C H H1 ∧ uq F283 U (ud m H1) ∧ (∃ bf' bt', BZ (ud m H1) bf' bt') ∧ ∃ n ls, (ud m H1).2.1 129 11 = nI n ∧ (∀ i, i < n → ((ud m H1).2.2.1 129 10).2 i = nI (ls i)) ∧ (∀ i j, i < j → j < n → ls i < ls j) ∧ ∀ x, lmz ls n x = true ↔ x < f k ∧ CHD U f k K cv x) := by
  obtain ⟨⟨s4, s10, s11, s12⟩, hk5, ⟨g8, g8b, g18, g18b⟩, ⟨gP, gpd, gsm⟩, hsp, hmo⟩ := (show spx m U P f from hS)
  have hk7 := hk5 k hk
  refine mu_meth (M := mu_m283) rfl rfl ?_
  refine mw_ht (mu_fn_of (show [0, 1, 2].Nodup by decide)) ?_
  refine mw_go mu_g283 (k := 2) (f1 := (4, [(0, .inr (.inr (some 129))), (1, .inl (nI k)), (2, .inl (nI lane))], [.inr (.inr (mu_r H 129 0))], H)) (C := [mu_is H (some 129) 9]) rfl (show mu_is H (some 129) 9 from (h.1.1.is rfl)) ?_
  rw [(h.1.1.r (p := 129) (j := 0) (q := 99) rfl)]
  refine mw_go mu_g283 (k := 1) (f1 := (7, [(0, .inr (.inr (some 129))), (1, .inl (nI k)), (2, .inl (nI lane))], [.inr (.inr (mu_r H 99 5))], H)) (C := [mu_is H (some 99) 13]) rfl (show mu_is H (some 99) 13 from (h.1.1.is rfl)) ?_
  rw [(h.1.1.r (p := 99) (j := 5) (q := 120) rfl)]
  refine mw_go mu_g283 (k := 2) (f1 := (9, [(0, .inr (.inr (some 129))), (1, .inl (nI k)), (2, .inl (nI lane))], [.inl (mu_i H 120 (nI k).toNatClampNeg)], H)) (C := [mu_isr H (some 120) 100, vp_in (nI k) (mu_n H 120)]) rfl (show (mu_isr H (some 120) 100) ∧ (vp_in (nI k) (mu_n H 120)) from ⟨((h.iA e rfl rfl ((ud_q (m := m) (P := 99) (j := 5) e rfl).symm.trans (h.1.1.r (p := 99) (j := 5) (q := 120) rfl)))).r, (by rw [show mu_n H 120 = 14 from (h.1.1.a (p := 120) (x := (100, 14)) rfl).2]; exact vp_in_nI (n := k) (by omega) (by decide))⟩) ?_
  rw [(show (mu_i H 120 (nI k).toNatClampNeg) = (nI (f k)) from ((congrArg (mu_i H 120) (show (nI k).toNatClampNeg = k from nI_clamp (by omega))).trans (h.gA e rfl rfl ((ud_q (m := m) (P := 99) (j := 5) e rfl).symm.trans (h.1.1.r (p := 99) (j := 5) (q := 120) rfl)))).trans ((congrArg (fun z => z.2 k) (show U.2.2.1 99 5 = (U.2.2.1 99 5) from rfl)).trans (hk5 k (by omega)).1))]
  refine mw_go mu_g283 (k := 2) (f1 := (12, [(0, .inr (.inr (some 129))), (1, .inl (nI k)), (2, .inl (nI lane))], [.inl ((nI (f k)) + (63 : Int32))], H)) (C := []) rfl trivial ?_
  rw [(show ((nI (f k)) + (63 : Int32)) = (nI ((f k) + 63)) from (nI_add (f k) 63))]
  refine mw_go mu_g283 (k := 2) (f1 := (15, [(0, .inr (.inr (some 129))), (1, .inl (nI k)), (2, .inl (nI lane))], [.inl ((nI ((f k) + 63)) >>> ((6 : Int32) &&& 31))], H)) (C := []) rfl trivial ?_
  rw [(show ((nI ((f k) + 63)) >>> ((6 : Int32) &&& 31)) = (nI (((f k) + 63) / 64)) from (nI_shr6 (a := (f k) + 63) (by omega)))]
  refine mw_go mu_g283 (k := 3) (f1 := (20, [(3, .inl (nI (((f k) + 63) / 64))), (0, .inr (.inr (some 129))), (1, .inl (nI k)), (2, .inl (nI lane))], [.inr (.inr (mu_r H 129 0))], H)) (C := [mu_is H (some 129) 9]) rfl (show mu_is H (some 129) 9 from (h.1.1.is rfl)) ?_
  rw [(h.1.1.r (p := 129) (j := 0) (q := 99) rfl)]
  refine mw_go mu_g283 (k := 1) (f1 := (23, [(3, .inl (nI (((f k) + 63) / 64))), (0, .inr (.inr (some 129))), (1, .inl (nI k)), (2, .inl (nI lane))], [.inr (.inr (mu_r H 99 1))], H)) (C := [mu_is H (some 99) 13]) rfl (show mu_is H (some 99) 13 from (h.1.1.is rfl)) ?_
  rw [(h.1.1.r (p := 99) (j := 1) (q := 100) rfl)]
  refine mw_go mu_g283 (k := 1) (f1 := (24, [(3, .inl (nI (((f k) + 63) / 64))), (0, .inr (.inr (some 129))), (1, .inl (nI k)), (2, .inl (nI lane))], [.inl (nI lane), .inr (.inr (some 100))], H)) (C := []) rfl trivial ?_
  refine mw_cIe (fun _ => rfl) (show mu_is H (some 100) 5 from (h.1.1.is rfl)) (hCH (d + 1) _ _ h e (show MCQ U U from ⟨fun j => (uq.refl F283 U).i 100 j rfl, fun J => (uq.refl F283 U).a 100 J rfl, fun J => (uq.refl F283 U).r 100 J rfl⟩)).1 ?_
  refine mw_go mu_g283 (k := 4) (f1 := (34, [(4, .inl (nI K)), (3, .inl (nI (((f k) + 63) / 64))), (0, .inr (.inr (some 129))), (1, .inl (nI k)), (2, .inl (nI lane))], [], (mu_si H 129 11 (0 : Int32)))) (C := [mu_is H (some 129) 9]) rfl (show mu_is H (some 129) 9 from (h.1.1.is rfl)) ?_
  obtain ⟨u2, r2, d2⟩ : um m (mu_si H 129 11 (0 : Int32)) ∧ ur m C H (mu_si H 129 11 (0 : Int32)) ∧ ud m (mu_si H 129 11 (0 : Int32)) = (upI U 129 11 (0 : Int32)) := h.sI (C := C) e rfl
  generalize (mu_si H 129 11 (0 : Int32)) = Q2 at u2 r2 d2 ⊢
  have qf2 : uq F283 U (upI U 129 11 (0 : Int32)) := (uq.refl F283 U).I rfl
  have ht2 : ur m C H Q2 := (ur.refl m C H).trans r2
  refine mw_go mu_g283 (k := 2) (f1 := (37, [(4, .inl (nI K)), (3, .inl (nI (((f k) + 63) / 64))), (0, .inr (.inr (some 129))), (1, .inl (nI k)), (2, .inl (nI lane))], [.inl (1 : Int32), .inl (nI K)], Q2)) (C := []) rfl trivial ?_
  refine mw_if (P := (nI K) = (1 : Int32)) (a := 40) (b := 85) (fun _ => rfl) trivial (fun h3 => ?_) (fun h3 => ?_)
  · -- 40: (nI K) = (1 : Int32)
    have nh3 : K = 1 := (nI_eq (by omega) (by omega)).mp (show nI K = nI 1 from h3)
    refine mw_go mu_g283 (k := 2) (f1 := (44, [(4, .inl (nI K)), (3, .inl (nI (((f k) + 63) / 64))), (0, .inr (.inr (some 129))), (1, .inl (nI k)), (2, .inl (nI lane))], [.inr (.inr (mu_r Q2 129 10))], Q2)) (C := [mu_is Q2 (some 129) 9]) rfl (show mu_is Q2 (some 129) 9 from (u2.1.1.is rfl)) ?_
    rw [(show mu_r Q2 129 10 = (U.2.2.2.1 129 10) from (ud_q (U := (upI U 129 11 (0 : Int32))) (m := m) (P := 129) (j := 10) d2 rfl))]
    refine mw_go mu_g283 (k := 3) (f1 := (49, [(4, .inl (nI K)), (3, .inl (nI (((f k) + 63) / 64))), (0, .inr (.inr (some 129))), (1, .inl (nI k)), (2, .inl (nI lane))], [.inr (.inr (mu_r Q2 129 0)), .inl (0 : Int32), .inr (.inr (U.2.2.2.1 129 10))], Q2)) (C := [mu_is Q2 (some 129) 9]) rfl (show mu_is Q2 (some 129) 9 from (u2.1.1.is rfl)) ?_
    rw [(u2.1.1.r (p := 129) (j := 0) (q := 99) rfl)]
    refine mw_go mu_g283 (k := 3) (f1 := (54, [(4, .inl (nI K)), (3, .inl (nI (((f k) + 63) / 64))), (0, .inr (.inr (some 129))), (1, .inl (nI k)), (2, .inl (nI lane))], [.inr (.inr (mu_r Q2 129 0)), .inl (nI k), .inr (.inr (some 99)), .inl (0 : Int32), .inr (.inr (U.2.2.2.1 129 10))], Q2)) (C := [mu_is Q2 (some 129) 9]) rfl (show mu_is Q2 (some 129) 9 from (u2.1.1.is rfl)) ?_
    rw [(u2.1.1.r (p := 129) (j := 0) (q := 99) rfl)]
    refine mw_go mu_g283 (k := 1) (f1 := (57, [(4, .inl (nI K)), (3, .inl (nI (((f k) + 63) / 64))), (0, .inr (.inr (some 129))), (1, .inl (nI k)), (2, .inl (nI lane))], [.inr (.inr (mu_r Q2 99 1)), .inl (nI k), .inr (.inr (some 99)), .inl (0 : Int32), .inr (.inr (U.2.2.2.1 129 10))], Q2)) (C := [mu_is Q2 (some 99) 13]) rfl (show mu_is Q2 (some 99) 13 from (u2.1.1.is rfl)) ?_
    rw [(u2.1.1.r (p := 99) (j := 1) (q := 100) rfl)]
    refine mw_go mu_g283 (k := 2) (f1 := (59, [(4, .inl (nI K)), (3, .inl (nI (((f k) + 63) / 64))), (0, .inr (.inr (some 129))), (1, .inl (nI k)), (2, .inl (nI lane))], [.inl (0 : Int32), .inl (nI lane), .inr (.inr (some 100)), .inl (nI k), .inr (.inr (some 99)), .inl (0 : Int32), .inr (.inr (U.2.2.2.1 129 10))], Q2)) (C := []) rfl trivial ?_
    refine mw_cIe (fun _ => rfl) (show mu_is Q2 (some 100) 5 from (u2.1.1.is rfl)) ((hCH (d + 1) _ _ u2 d2 (show MCQ U (upI U 129 11 (0 : Int32)) from ⟨fun j => qf2.i 100 j rfl, fun J => qf2.a 100 J rfl, fun J => qf2.r 100 J rfl⟩)).2 0 (by omega)) ?_
    refine mw_cI (fun _ => rfl) (show mu_is Q2 (some 99) 13 from (u2.1.1.is rfl)) (sp_digitOf2 (d := (d + 2)) (k := k) (v := (cv 0)) u2 d2 (spx_keep hS (show ((upI U 129 11 (0 : Int32)).2.1 99 4) = (U.2.1 99 4) from rfl) (show ((upI U 129 11 (0 : Int32)).2.1 99 10) = (U.2.1 99 10) from rfl) (show ((upI U 129 11 (0 : Int32)).2.1 99 11) = (U.2.1 99 11) from rfl) (show ((upI U 129 11 (0 : Int32)).2.1 99 12) = (U.2.1 99 12) from rfl) (show ((upI U 129 11 (0 : Int32)).2.2.1 99 5) = (U.2.2.1 99 5) from rfl) (show ((upI U 129 11 (0 : Int32)).2.2.1 99 7) = (U.2.2.1 99 7) from rfl) (show ((upI U 129 11 (0 : Int32)).2.2.1 99 6) = (U.2.2.1 99 6) from rfl) (show ((upI U 129 11 (0 : Int32)).2.2.1 99 8).1 = (U.2.2.1 99 8).1 from rfl) (show ((upI U 129 11 (0 : Int32)).2.2.1 99 18).1 = (U.2.2.1 99 18).1 from rfl) (show ((upI U 129 11 (0 : Int32)).2.2.2.1 100 0) = (U.2.2.2.1 100 0) from rfl) (show ((upI U 129 11 (0 : Int32)).2.2.2.1 99 0) = (U.2.2.2.1 99 0) from rfl)) hk (show VDF (upI U 129 11 (0 : Int32)) P f from (by unfold VDF at hR ⊢; rw [(show ((upI U 129 11 (0 : Int32)).2.1 99 9) = (U.2.1 99 9) from rfl), (show ((upI U 129 11 (0 : Int32)).2.2.1 99 8) = (U.2.2.1 99 8) from rfl)]; exact hR))) (fun x5 H5 q5 => ?_)
    rcases q5 with ⟨⟨hx1, hnone⟩, hQe⟩ | ⟨⟨q, hq1, hx1, hqv⟩, hQe⟩
    · -- (-1 : Int32)
      rw [hx1, hQe]
      rw [(show ((upI U 129 11 (0 : Int32)).2.2.1 99 8) = (U.2.2.1 99 8) from rfl)] at hnone
      refine mw_go mu_g283 (k := 1) (f1 := (66, [(4, .inl (nI K)), (3, .inl (nI (((f k) + 63) / 64))), (0, .inr (.inr (some 129))), (1, .inl (nI k)), (2, .inl (nI lane))], [], (mu_si Q2 (mu_p (U.2.2.2.1 129 10)) (0 : Int32).toNatClampNeg (-1 : Int32)))) (C := [mu_is Q2 (U.2.2.2.1 129 10) 100, vp_in (0 : Int32) (mu_n Q2 (mu_p (U.2.2.2.1 129 10)))]) rfl (show (mu_is Q2 (U.2.2.2.1 129 10) 100) ∧ (vp_in (0 : Int32) (mu_n Q2 (mu_p (U.2.2.2.1 129 10)))) from ⟨(u2.iA d2 rfl rfl (show (upI U 129 11 (0 : Int32)).2.2.2.1 129 10 = (U.2.2.2.1 129 10) from rfl)), (u2.vA (i := 0) d2 rfl rfl (show (upI U 129 11 (0 : Int32)).2.2.2.1 129 10 = (U.2.2.2.1 129 10) from rfl) (show ((upI U 129 11 (0 : Int32)).2.2.1 129 10).1 = (U.2.2.1 129 10).1 from rfl) (by omega) (by omega))⟩) ?_
      rw [(show (0 : Int32).toNatClampNeg = 0 from by decide)]
      obtain ⟨u6, r6, d6⟩ : um m (mu_si Q2 (mu_p (U.2.2.2.1 129 10)) 0 (-1 : Int32)) ∧ ur m C Q2 (mu_si Q2 (mu_p (U.2.2.2.1 129 10)) 0 (-1 : Int32)) ∧ ud m (mu_si Q2 (mu_p (U.2.2.2.1 129 10)) 0 (-1 : Int32)) = (upA (upI U 129 11 (0 : Int32)) 129 10 0 (-1 : Int32)) := u2.sA (C := C) d2 rfl rfl (show (upI U 129 11 (0 : Int32)).2.2.2.1 129 10 = (U.2.2.2.1 129 10) from rfl)
      generalize (mu_si Q2 (mu_p (U.2.2.2.1 129 10)) 0 (-1 : Int32)) = Q6 at u6 r6 d6 ⊢
      have qf6 : uq F283 U (upA (upI U 129 11 (0 : Int32)) 129 10 0 (-1 : Int32)) := qf2.A rfl
      have ht6 : ur m C H Q6 := ht2.trans r6
      refine mw_go mu_g283 (k := 3) (f1 := (71, [(4, .inl (nI K)), (3, .inl (nI (((f k) + 63) / 64))), (0, .inr (.inr (some 129))), (1, .inl (nI k)), (2, .inl (nI lane))], [.inr (.inr (mu_r Q6 129 10)), .inr (.inr (some 129))], Q6)) (C := [mu_is Q6 (some 129) 9]) rfl (show mu_is Q6 (some 129) 9 from (u6.1.1.is rfl)) ?_
      rw [(show mu_r Q6 129 10 = (U.2.2.2.1 129 10) from (ud_q (U := (upA (upI U 129 11 (0 : Int32)) 129 10 0 (-1 : Int32))) (m := m) (P := 129) (j := 10) d6 rfl))]
      refine mw_go mu_g283 (k := 2) (f1 := (73, [(4, .inl (nI K)), (3, .inl (nI (((f k) + 63) / 64))), (0, .inr (.inr (some 129))), (1, .inl (nI k)), (2, .inl (nI lane))], [.inl (mu_i Q6 (mu_p (U.2.2.2.1 129 10)) (0 : Int32).toNatClampNeg), .inr (.inr (some 129))], Q6)) (C := [mu_isr Q6 (U.2.2.2.1 129 10) 100, vp_in (0 : Int32) (mu_n Q6 (mu_p (U.2.2.2.1 129 10)))]) rfl (show (mu_isr Q6 (U.2.2.2.1 129 10) 100) ∧ (vp_in (0 : Int32) (mu_n Q6 (mu_p (U.2.2.2.1 129 10)))) from ⟨((u6.iA d6 rfl rfl (show (upA (upI U 129 11 (0 : Int32)) 129 10 0 (-1 : Int32)).2.2.2.1 129 10 = (U.2.2.2.1 129 10) from rfl))).r, (u6.vA (i := 0) d6 rfl rfl (show (upA (upI U 129 11 (0 : Int32)) 129 10 0 (-1 : Int32)).2.2.2.1 129 10 = (U.2.2.2.1 129 10) from rfl) (show ((upA (upI U 129 11 (0 : Int32)) 129 10 0 (-1 : Int32)).2.2.1 129 10).1 = (U.2.2.1 129 10).1 from rfl) (by omega) (by omega))⟩) ?_
      rw [(show (mu_i Q6 (mu_p (U.2.2.2.1 129 10)) (0 : Int32).toNatClampNeg) = (-1 : Int32) from ((congrArg (mu_i Q6 (mu_p (U.2.2.2.1 129 10))) (show (0 : Int32).toNatClampNeg = 0 from by decide)).trans (u6.gA d6 rfl rfl (show (upA (upI U 129 11 (0 : Int32)) 129 10 0 (-1 : Int32)).2.2.2.1 129 10 = (U.2.2.2.1 129 10) from rfl))).trans ((congrArg (fun z => z.2 0) (show (upA (upI U 129 11 (0 : Int32)) 129 10 0 (-1 : Int32)).2.2.1 129 10 = ((upA (upI U 129 11 (0 : Int32)) 129 10 0 (-1 : Int32)).2.2.1 129 10) from rfl)).trans rfl))]
      refine mw_if (P := (-1 : Int32) < 0) (a := 76) (b := 80) (fun _ => rfl) trivial (fun h7 => ?_) (fun h7 => absurd (by decide) h7)
      refine mw_go mu_g283 (k := 3) (f1 := (84, [(4, .inl (nI K)), (3, .inl (nI (((f k) + 63) / 64))), (0, .inr (.inr (some 129))), (1, .inl (nI k)), (2, .inl (nI lane))], [], (mu_si Q6 129 11 (0 : Int32)))) (C := [mu_is Q6 (some 129) 9]) rfl (show mu_is Q6 (some 129) 9 from (u6.1.1.is rfl)) ?_
      obtain ⟨u8, r8, d8⟩ : um m (mu_si Q6 129 11 (0 : Int32)) ∧ ur m C Q6 (mu_si Q6 129 11 (0 : Int32)) ∧ ud m (mu_si Q6 129 11 (0 : Int32)) = (upI (upA (upI U 129 11 (0 : Int32)) 129 10 0 (-1 : Int32)) 129 11 (0 : Int32)) := u6.sI (C := C) d6 rfl
      generalize (mu_si Q6 129 11 (0 : Int32)) = Q8 at u8 r8 d8 ⊢
      have qf8 : uq F283 U (upI (upA (upI U 129 11 (0 : Int32)) 129 10 0 (-1 : Int32)) 129 11 (0 : Int32)) := qf6.I rfl
      have ht8 : ur m C H Q8 := ht6.trans r8
      exact mw_of (fun _ => mu_ret rfl trivial ⟨Q8, rfl, u8, ht8, (by rw [d8]; exact qf8), ⟨bf, bt, (by rw [d8]; exact (show BZ (upI (upA (upI U 129 11 (0 : Int32)) 129 10 0 (-1 : Int32)) 129 11 (0 : Int32)) bf bt from hz))⟩, 0, (fun _ => 0), (by rw [d8]; rfl), (by rw [d8]; exact ⟨(fun i hi => absurd hi (Nat.not_lt_zero _)), (fun i j _ hj => absurd hj (Nat.not_lt_zero _)), (fun x => ⟨fun y => (by cases y), fun ⟨y1, i, i1, i2⟩ => absurd (show (U.2.2.1 99 8).2 (sm f 0 k + x) = cv 0 from by rw [← i2, show i = 0 by omega]) (hnone x y1)⟩)⟩)⟩)
    · -- (nI q)
      rw [hx1, hQe]
      rw [(show ((upI U 129 11 (0 : Int32)).2.2.1 99 8) = (U.2.2.1 99 8) from rfl)] at hqv
      refine mw_go mu_g283 (k := 1) (f1 := (66, [(4, .inl (nI K)), (3, .inl (nI (((f k) + 63) / 64))), (0, .inr (.inr (some 129))), (1, .inl (nI k)), (2, .inl (nI lane))], [], (mu_si Q2 (mu_p (U.2.2.2.1 129 10)) (0 : Int32).toNatClampNeg (nI q)))) (C := [mu_is Q2 (U.2.2.2.1 129 10) 100, vp_in (0 : Int32) (mu_n Q2 (mu_p (U.2.2.2.1 129 10)))]) rfl (show (mu_is Q2 (U.2.2.2.1 129 10) 100) ∧ (vp_in (0 : Int32) (mu_n Q2 (mu_p (U.2.2.2.1 129 10)))) from ⟨(u2.iA d2 rfl rfl (show (upI U 129 11 (0 : Int32)).2.2.2.1 129 10 = (U.2.2.2.1 129 10) from rfl)), (u2.vA (i := 0) d2 rfl rfl (show (upI U 129 11 (0 : Int32)).2.2.2.1 129 10 = (U.2.2.2.1 129 10) from rfl) (show ((upI U 129 11 (0 : Int32)).2.2.1 129 10).1 = (U.2.2.1 129 10).1 from rfl) (by omega) (by omega))⟩) ?_
      rw [(show (0 : Int32).toNatClampNeg = 0 from by decide)]
      obtain ⟨u9, r9, d9⟩ : um m (mu_si Q2 (mu_p (U.2.2.2.1 129 10)) 0 (nI q)) ∧ ur m C Q2 (mu_si Q2 (mu_p (U.2.2.2.1 129 10)) 0 (nI q)) ∧ ud m (mu_si Q2 (mu_p (U.2.2.2.1 129 10)) 0 (nI q)) = (upA (upI U 129 11 (0 : Int32)) 129 10 0 (nI q)) := u2.sA (C := C) d2 rfl rfl (show (upI U 129 11 (0 : Int32)).2.2.2.1 129 10 = (U.2.2.2.1 129 10) from rfl)
      generalize (mu_si Q2 (mu_p (U.2.2.2.1 129 10)) 0 (nI q)) = Q9 at u9 r9 d9 ⊢
      have qf9 : uq F283 U (upA (upI U 129 11 (0 : Int32)) 129 10 0 (nI q)) := qf2.A rfl
      have ht9 : ur m C H Q9 := ht2.trans r9
      refine mw_go mu_g283 (k := 3) (f1 := (71, [(4, .inl (nI K)), (3, .inl (nI (((f k) + 63) / 64))), (0, .inr (.inr (some 129))), (1, .inl (nI k)), (2, .inl (nI lane))], [.inr (.inr (mu_r Q9 129 10)), .inr (.inr (some 129))], Q9)) (C := [mu_is Q9 (some 129) 9]) rfl (show mu_is Q9 (some 129) 9 from (u9.1.1.is rfl)) ?_
      rw [(show mu_r Q9 129 10 = (U.2.2.2.1 129 10) from (ud_q (U := (upA (upI U 129 11 (0 : Int32)) 129 10 0 (nI q))) (m := m) (P := 129) (j := 10) d9 rfl))]
      refine mw_go mu_g283 (k := 2) (f1 := (73, [(4, .inl (nI K)), (3, .inl (nI (((f k) + 63) / 64))), (0, .inr (.inr (some 129))), (1, .inl (nI k)), (2, .inl (nI lane))], [.inl (mu_i Q9 (mu_p (U.2.2.2.1 129 10)) (0 : Int32).toNatClampNeg), .inr (.inr (some 129))], Q9)) (C := [mu_isr Q9 (U.2.2.2.1 129 10) 100, vp_in (0 : Int32) (mu_n Q9 (mu_p (U.2.2.2.1 129 10)))]) rfl (show (mu_isr Q9 (U.2.2.2.1 129 10) 100) ∧ (vp_in (0 : Int32) (mu_n Q9 (mu_p (U.2.2.2.1 129 10)))) from ⟨((u9.iA d9 rfl rfl (show (upA (upI U 129 11 (0 : Int32)) 129 10 0 (nI q)).2.2.2.1 129 10 = (U.2.2.2.1 129 10) from rfl))).r, (u9.vA (i := 0) d9 rfl rfl (show (upA (upI U 129 11 (0 : Int32)) 129 10 0 (nI q)).2.2.2.1 129 10 = (U.2.2.2.1 129 10) from rfl) (show ((upA (upI U 129 11 (0 : Int32)) 129 10 0 (nI q)).2.2.1 129 10).1 = (U.2.2.1 129 10).1 from rfl) (by omega) (by omega))⟩) ?_
      rw [(show (mu_i Q9 (mu_p (U.2.2.2.1 129 10)) (0 : Int32).toNatClampNeg) = (nI q) from ((congrArg (mu_i Q9 (mu_p (U.2.2.2.1 129 10))) (show (0 : Int32).toNatClampNeg = 0 from by decide)).trans (u9.gA d9 rfl rfl (show (upA (upI U 129 11 (0 : Int32)) 129 10 0 (nI q)).2.2.2.1 129 10 = (U.2.2.2.1 129 10) from rfl))).trans ((congrArg (fun z => z.2 0) (show (upA (upI U 129 11 (0 : Int32)) 129 10 0 (nI q)).2.2.1 129 10 = ((upA (upI U 129 11 (0 : Int32)) 129 10 0 (nI q)).2.2.1 129 10) from rfl)).trans rfl))]
      refine mw_if (P := (nI q) < 0) (a := 76) (b := 80) (fun _ => rfl) trivial (fun h10 => absurd h10 (nI_pos (by omega))) (fun h10 => ?_)
      refine mw_go mu_g283 (k := 2) (f1 := (84, [(4, .inl (nI K)), (3, .inl (nI (((f k) + 63) / 64))), (0, .inr (.inr (some 129))), (1, .inl (nI k)), (2, .inl (nI lane))], [], (mu_si Q9 129 11 (1 : Int32)))) (C := [mu_is Q9 (some 129) 9]) rfl (show mu_is Q9 (some 129) 9 from (u9.1.1.is rfl)) ?_
      obtain ⟨u11, r11, d11⟩ : um m (mu_si Q9 129 11 (1 : Int32)) ∧ ur m C Q9 (mu_si Q9 129 11 (1 : Int32)) ∧ ud m (mu_si Q9 129 11 (1 : Int32)) = (upI (upA (upI U 129 11 (0 : Int32)) 129 10 0 (nI q)) 129 11 (1 : Int32)) := u9.sI (C := C) d9 rfl
      generalize (mu_si Q9 129 11 (1 : Int32)) = Q11 at u11 r11 d11 ⊢
      have qf11 : uq F283 U (upI (upA (upI U 129 11 (0 : Int32)) 129 10 0 (nI q)) 129 11 (1 : Int32)) := qf9.I rfl
      have ht11 : ur m C H Q11 := ht9.trans r11
      exact mw_of (fun _ => mu_ret rfl trivial ⟨Q11, rfl, u11, ht11, (by rw [d11]; exact qf11), ⟨bf, bt, (by rw [d11]; exact (show BZ (upI (upA (upI U 129 11 (0 : Int32)) 129 10 0 (nI q)) 129 11 (1 : Int32)) bf bt from hz))⟩, 1, (fun _ => q), (by rw [d11]; rfl), (by rw [d11]; exact ⟨(fun i hi => (by rw [show i = 0 by omega]; rfl)), (fun i j h1 h2 => absurd h2 (by omega)), (fun x => by rw [lmz_iff]; exact ⟨fun ⟨i, i1, i2⟩ => ⟨by omega, 0, by omega, by rw [← i2]; exact hqv.symm⟩, fun ⟨y1, i, i1, i2⟩ => ⟨0, by decide, hR.2 k hk q x hq1 y1 (by rw [hqv, ← i2, show i = 0 by omega])⟩⟩)⟩)⟩)
  · -- 85: not (nI K) = (1 : Int32)
    have nh3 : ¬ K = 1 := fun z => h3 (show nI K = nI 1 from (nI_eq (by omega) (by omega)).mpr z)
    refine mw_go mu_g283 (k := 3) (f1 := (88, [(4, .inl (nI K)), (3, .inl (nI (((f k) + 63) / 64))), (0, .inr (.inr (some 129))), (1, .inl (nI k)), (2, .inl (nI lane))], [.inl (nI (((f k) + 63) / 64)), .inl (0 : Int32), .inr (.inr (some 129))], Q2)) (C := []) rfl trivial ?_
    have hz1 : BZ (upI U 129 11 (0 : Int32)) bf bt := hz
    refine mw_cV (fun _ => rfl) (show mu_is Q2 (some 129) 9 from (u2.1.1.is rfl)) (rl_clear (d := d) (C := C) (a := 0) (b := ((f k) + 63) / 64) u2 d2 hz1) (fun Q12 q12 => ?_)
    obtain ⟨u12, r12, d12⟩ := q12
    have ht12 : ur m C H Q12 := ht2.trans r12
    have qf12 : uq F283 U (upI (upI (upM (upI U 129 11 (0 : Int32)) 146 bf (fun _ => (0 : Int64)) (bt - bf)) 129 19 (nI 0)) 129 20 (nI (((f k) + 63) / 64))) := (((qf2.M rfl).I rfl).I rfl)
    obtain ⟨hz2, hz0⟩ := BZ.clear hz1 (a := 0) (b := ((f k) + 63) / 64) (by omega) (by omega)
    refine mw_go mu_g283 (k := 2) (f1 := (94, [(5, .inl (0 : Int32)), (4, .inl (nI K)), (3, .inl (nI (((f k) + 63) / 64))), (0, .inr (.inr (some 129))), (1, .inl (nI k)), (2, .inl (nI lane))], [], Q12)) (C := []) rfl trivial ?_
    show mu_W _ _ (94, [(5, .inl (nI 0)), (4, .inl (nI K)), (3, .inl (nI (((f k) + 63) / 64))), (0, .inr (.inr (some 129))), (1, .inl (nI k)), (2, .inl (nI lane))], [], Q12) _
    refine mw_sub (L' := [(5, .inl (nI 0)), (0, .inr (.inr (some 129))), (1, .inl (nI k)), (2, .inl (nI lane)), (3, .inl (nI (((f k) + 63) / 64))), (4, .inl (nI K))]) (by simp) ?_
    refine mw_down (α := Nat × mu_H) (fun zs => (94, [(5, .inl (nI zs.1)), (0, .inr (.inr (some 129))), (1, .inl (nI k)), (2, .inl (nI lane)), (3, .inl (nI (((f k) + 63) / 64))), (4, .inl (nI K))], [], zs.2)) (fun zs => K - zs.1) (fun zs => um m zs.2 ∧ ur m C H zs.2 ∧ (uq F283a (upI (upI (upM (upI U 129 11 (0 : Int32)) 146 bf (fun _ => (0 : Int64)) (bt - bf)) 129 19 (nI 0)) 129 20 (nI (((f k) + 63) / 64))) (ud m zs.2)) ∧ (zs.1 ≤ K) ∧ (∀ t, t < 16384 → (bts ((ud m zs.2).2.2.2.2.1 146) t = true ↔ t < f k ∧ CHD U f k zs.1 cv t))) (fun zs hza iha => ?_) (0, Q12) ⟨u12, ht12, (show uq F283a (upI (upI (upM (upI U 129 11 (0 : Int32)) 146 bf (fun _ => (0 : Int64)) (bt - bf)) 129 19 (nI 0)) 129 20 (nI (((f k) + 63) / 64))) (ud m Q12) from by rw [d12]; exact uq.refl _ _), (show 0 ≤ K from (by omega)), (show ∀ t, t < 16384 → (bts ((ud m Q12).2.2.2.2.1 146) t = true ↔ t < f k ∧ CHD U f k 0 cv t) from by rw [d12]; exact (fun t ht => by rw [bts_zero hz0 ht]; exact ⟨fun q => (by cases q), fun ⟨_, i, hi, _⟩ => absurd hi (Nat.not_lt_zero _)⟩))⟩
    obtain ⟨y, Hsa⟩ := zs
    obtain ⟨ua, hta, da, hw, hB⟩ := hza
    have ua : um m Hsa := ua
    have hta : ur m C H Hsa := hta
    have zza : uq F283a (upI (upI (upM (upI U 129 11 (0 : Int32)) 146 bf (fun _ => (0 : Int64)) (bt - bf)) 129 19 (nI 0)) 129 20 (nI (((f k) + 63) / 64))) (ud m Hsa) := da
    have hw : y ≤ K := hw
    have hB : ∀ t, t < 16384 → (bts ((ud m Hsa).2.2.2.2.1 146) t = true ↔ t < f k ∧ CHD U f k y cv t) := hB
    obtain ⟨Va, da⟩ : ∃ V, ud m Hsa = V := ⟨_, rfl⟩
    rw [da] at zza hB
    have qfa : uq F283 U Va := qf12.tr zza rfl
    show mu_W _ _ (94, [(5, .inl (nI y)), (0, .inr (.inr (some 129))), (1, .inl (nI k)), (2, .inl (nI lane)), (3, .inl (nI (((f k) + 63) / 64))), (4, .inl (nI K))], [], Hsa) _
    refine mw_go mu_g283 (k := 2) (f1 := (98, [(5, .inl (nI y)), (0, .inr (.inr (some 129))), (1, .inl (nI k)), (2, .inl (nI lane)), (3, .inl (nI (((f k) + 63) / 64))), (4, .inl (nI K))], [.inl (nI K), .inl (nI y)], Hsa)) (C := []) rfl trivial ?_
    refine mw_if (P := (nI y) < (nI K)) (a := 101) (b := 152) (fun _ => rfl) trivial (fun h13 => ?_) (fun h13 => ?_)
    · -- 101: (nI y) < (nI K)
      have nh13 : y < K := (nI_ltI (by omega) (by omega)).mp (show nI y < nI K from h13)
      refine mw_go mu_g283 (k := 2) (f1 := (105, [(5, .inl (nI y)), (0, .inr (.inr (some 129))), (1, .inl (nI k)), (2, .inl (nI lane)), (3, .inl (nI (((f k) + 63) / 64))), (4, .inl (nI K))], [.inr (.inr (mu_r Hsa 129 0))], Hsa)) (C := [mu_is Hsa (some 129) 9]) rfl (show mu_is Hsa (some 129) 9 from (ua.1.1.is rfl)) ?_
      rw [(ua.1.1.r (p := 129) (j := 0) (q := 99) rfl)]
      refine mw_go mu_g283 (k := 3) (f1 := (110, [(5, .inl (nI y)), (0, .inr (.inr (some 129))), (1, .inl (nI k)), (2, .inl (nI lane)), (3, .inl (nI (((f k) + 63) / 64))), (4, .inl (nI K))], [.inr (.inr (mu_r Hsa 129 0)), .inl (nI k), .inr (.inr (some 99))], Hsa)) (C := [mu_is Hsa (some 129) 9]) rfl (show mu_is Hsa (some 129) 9 from (ua.1.1.is rfl)) ?_
      rw [(ua.1.1.r (p := 129) (j := 0) (q := 99) rfl)]
      refine mw_go mu_g283 (k := 1) (f1 := (113, [(5, .inl (nI y)), (0, .inr (.inr (some 129))), (1, .inl (nI k)), (2, .inl (nI lane)), (3, .inl (nI (((f k) + 63) / 64))), (4, .inl (nI K))], [.inr (.inr (mu_r Hsa 99 1)), .inl (nI k), .inr (.inr (some 99))], Hsa)) (C := [mu_is Hsa (some 99) 13]) rfl (show mu_is Hsa (some 99) 13 from (ua.1.1.is rfl)) ?_
      rw [(ua.1.1.r (p := 99) (j := 1) (q := 100) rfl)]
      refine mw_go mu_g283 (k := 2) (f1 := (116, [(5, .inl (nI y)), (0, .inr (.inr (some 129))), (1, .inl (nI k)), (2, .inl (nI lane)), (3, .inl (nI (((f k) + 63) / 64))), (4, .inl (nI K))], [.inl (nI y), .inl (nI lane), .inr (.inr (some 100)), .inl (nI k), .inr (.inr (some 99))], Hsa)) (C := []) rfl trivial ?_
      refine mw_cIe (fun _ => rfl) (show mu_is Hsa (some 100) 5 from (ua.1.1.is rfl)) ((hCH (d + 1) _ _ ua da (show MCQ U Va from ⟨fun j => qfa.i 100 j rfl, fun J => qfa.a 100 J rfl, fun J => qfa.r 100 J rfl⟩)).2 y (by omega)) ?_
      refine mw_cI (fun _ => rfl) (show mu_is Hsa (some 99) 13 from (ua.1.1.is rfl)) (sp_digitOf2 (d := (d + 2)) (k := k) (v := (cv y)) ua da (spx_keep hS (show (Va.2.1 99 4) = (U.2.1 99 4) from (zza.i 99 4 rfl)) (show (Va.2.1 99 10) = (U.2.1 99 10) from (zza.i 99 10 rfl)) (show (Va.2.1 99 11) = (U.2.1 99 11) from (zza.i 99 11 rfl)) (show (Va.2.1 99 12) = (U.2.1 99 12) from (zza.i 99 12 rfl)) (show (Va.2.2.1 99 5) = (U.2.2.1 99 5) from (zza.a 99 5 rfl)) (show (Va.2.2.1 99 7) = (U.2.2.1 99 7) from (zza.a 99 7 rfl)) (show (Va.2.2.1 99 6) = (U.2.2.1 99 6) from (zza.a 99 6 rfl)) (show (Va.2.2.1 99 8).1 = (U.2.2.1 99 8).1 from (zza.n 99 8 rfl)) (show (Va.2.2.1 99 18).1 = (U.2.2.1 99 18).1 from (zza.n 99 18 rfl)) (show (Va.2.2.2.1 100 0) = (U.2.2.2.1 100 0) from (zza.r 100 0 rfl)) (show (Va.2.2.2.1 99 0) = (U.2.2.2.1 99 0) from (zza.r 99 0 rfl))) hk (show VDF Va P f from (by unfold VDF at hR ⊢; rw [(show (Va.2.1 99 9) = (U.2.1 99 9) from (zza.i 99 9 rfl)), (show (Va.2.2.1 99 8) = (U.2.2.1 99 8) from (zza.a 99 8 rfl))]; exact hR))) (fun x15 H15 q15 => ?_)
      rcases q15 with ⟨⟨hx1, hnone⟩, hQe⟩ | ⟨⟨q, hq1, hx1, hqv⟩, hQe⟩
      · -- (-1 : Int32)
        rw [hx1, hQe]
        rw [(show (Va.2.2.1 99 8) = (U.2.2.1 99 8) from (zza.a 99 8 rfl))] at hnone
        refine mw_go mu_g283 (k := 2) (f1 := (126, [(6, .inl (-1 : Int32)), (5, .inl (nI y)), (0, .inr (.inr (some 129))), (1, .inl (nI k)), (2, .inl (nI lane)), (3, .inl (nI (((f k) + 63) / 64))), (4, .inl (nI K))], [.inl (-1 : Int32)], Hsa)) (C := []) rfl trivial ?_
        refine mw_if (P := (-1 : Int32) < 0) (a := 146) (b := 129) (fun _ => rfl) trivial (fun h16 => ?_) (fun h16 => absurd (by decide) h16)
        refine mw_go mu_g283 (k := 1) (f1 := (149, [(5, .inl ((nI y) + 1)), (6, .inl (-1 : Int32)), (0, .inr (.inr (some 129))), (1, .inl (nI k)), (2, .inl (nI lane)), (3, .inl (nI (((f k) + 63) / 64))), (4, .inl (nI K))], [], Hsa)) (C := []) rfl trivial ?_
        rw [(show ((nI y) + 1) = (nI (y + 1)) from (nI_add y 1))]
        refine mw_go mu_g283 (k := 1) (f1 := (94, [(5, .inl (nI (y + 1))), (6, .inl (-1 : Int32)), (0, .inr (.inr (some 129))), (1, .inl (nI k)), (2, .inl (nI lane)), (3, .inl (nI (((f k) + 63) / 64))), (4, .inl (nI K))], [], Hsa)) (C := []) rfl trivial ?_
        exact mw_sub (by simp) (iha (y + 1, Hsa) ⟨ua, hta, (show uq F283a (upI (upI (upM (upI U 129 11 (0 : Int32)) 146 bf (fun _ => (0 : Int64)) (bt - bf)) 129 19 (nI 0)) 129 20 (nI (((f k) + 63) / 64))) (ud m Hsa) from by rw [da]; exact zza), (show (y + 1) ≤ K from (by omega)), (show ∀ t, t < 16384 → (bts ((ud m Hsa).2.2.2.2.1 146) t = true ↔ t < f k ∧ CHD U f k (y + 1) cv t) from by rw [da]; exact (fun t ht => by rw [hB t ht]; exact ⟨fun ⟨q1, i, i1, i2⟩ => ⟨q1, i, by omega, i2⟩, fun ⟨q1, i, i1, i2⟩ => ⟨q1, by by_cases e0 : i = y; (rw [e0] at i2; exact absurd i2.symm (hnone t q1)); exact ⟨i, by omega, i2⟩⟩⟩))⟩ (by show K - (y + 1) < K - y; omega))
      · -- (nI q)
        rw [hx1, hQe]
        rw [(show (Va.2.2.1 99 8) = (U.2.2.1 99 8) from (zza.a 99 8 rfl))] at hqv
        refine mw_go mu_g283 (k := 2) (f1 := (126, [(6, .inl (nI q)), (5, .inl (nI y)), (0, .inr (.inr (some 129))), (1, .inl (nI k)), (2, .inl (nI lane)), (3, .inl (nI (((f k) + 63) / 64))), (4, .inl (nI K))], [.inl (nI q)], Hsa)) (C := []) rfl trivial ?_
        refine mw_if (P := (nI q) < 0) (a := 146) (b := 129) (fun _ => rfl) trivial (fun h17 => absurd h17 (nI_pos (by omega))) (fun h17 => ?_)
        refine mw_go mu_g283 (k := 2) (f1 := (133, [(6, .inl (nI q)), (5, .inl (nI y)), (0, .inr (.inr (some 129))), (1, .inl (nI k)), (2, .inl (nI lane)), (3, .inl (nI (((f k) + 63) / 64))), (4, .inl (nI K))], [.inr (.inr (mu_r Hsa 129 18))], Hsa)) (C := [mu_is Hsa (some 129) 9]) rfl (show mu_is Hsa (some 129) 9 from (ua.1.1.is rfl)) ?_
        rw [(ua.1.1.r (p := 129) (j := 18) (q := 146) rfl)]
        refine mw_go mu_g283 (k := 3) (f1 := (138, [(6, .inl (nI q)), (5, .inl (nI y)), (0, .inr (.inr (some 129))), (1, .inl (nI k)), (2, .inl (nI lane)), (3, .inl (nI (((f k) + 63) / 64))), (4, .inl (nI K))], [.inl ((nI q) >>> ((6 : Int32) &&& 31)), .inr (.inr (some 146))], Hsa)) (C := []) rfl trivial ?_
        rw [(show ((nI q) >>> ((6 : Int32) &&& 31)) = (nI (q / 64)) from (nI_shr6 (a := q) (by omega)))]
        refine mw_go mu_g283 (k := 2) (f1 := (140, [(6, .inl (nI q)), (5, .inl (nI y)), (0, .inr (.inr (some 129))), (1, .inl (nI k)), (2, .inl (nI lane)), (3, .inl (nI (((f k) + 63) / 64))), (4, .inl (nI K))], [.inr (.inl (mu_l Hsa 146 (nI (q / 64)).toNatClampNeg)), .inl (nI (q / 64)), .inr (.inr (some 146))], Hsa)) (C := [mu_isr Hsa (some 146) 102, vp_in (nI (q / 64)) (mu_n Hsa 146)]) rfl (show (mu_isr Hsa (some 146) 102) ∧ (vp_in (nI (q / 64)) (mu_n Hsa 146)) from ⟨((ua.1.1.a (p := 146) (x := (102, 256)) rfl).1).r, (by rw [show mu_n Hsa 146 = 256 from (ua.1.1.a (p := 146) (x := (102, 256)) rfl).2]; exact vp_in_nI (n := q / 64) (by omega) (by decide))⟩) ?_
        rw [(show (mu_l Hsa 146 (nI (q / 64)).toNatClampNeg) = (Va.2.2.2.2.1 146) (q / 64) from (congrArg (mu_l Hsa 146) (show (nI (q / 64)).toNatClampNeg = q / 64 from nI_clamp (by omega))).trans ((ud_l (m := m) (p := 146) (i := (q / 64)) da rfl).trans (congrFun (show Va.2.2.2.2.1 146 = (Va.2.2.2.2.1 146) from rfl) (q / 64))))]
        refine mw_go mu_g283 (k := 5) (f1 := (146, [(6, .inl (nI q)), (5, .inl (nI y)), (0, .inr (.inr (some 129))), (1, .inl (nI k)), (2, .inl (nI lane)), (3, .inl (nI (((f k) + 63) / 64))), (4, .inl (nI K))], [], (mu_sl Hsa 146 (nI (q / 64)).toNatClampNeg (((Va.2.2.2.2.1 146) (q / 64)) ||| ((1 : Int64) <<< ((nI q).toInt64 &&& 63)))))) (C := [mu_is Hsa (some 146) 102, vp_in (nI (q / 64)) (mu_n Hsa 146)]) rfl (show (mu_is Hsa (some 146) 102) ∧ (vp_in (nI (q / 64)) (mu_n Hsa 146)) from ⟨((ua.1.1.a (p := 146) (x := (102, 256)) rfl).1), (by rw [show mu_n Hsa 146 = 256 from (ua.1.1.a (p := 146) (x := (102, 256)) rfl).2]; exact vp_in_nI (n := q / 64) (by omega) (by decide))⟩) ?_
        rw [(show (nI (q / 64)).toNatClampNeg = q / 64 from nI_clamp (by omega))]
        obtain ⟨u18, r18, d18⟩ : um m (mu_sl Hsa 146 (q / 64) (((Va.2.2.2.2.1 146) (q / 64)) ||| ((1 : Int64) <<< ((nI q).toInt64 &&& 63)))) ∧ ur m C Hsa (mu_sl Hsa 146 (q / 64) (((Va.2.2.2.2.1 146) (q / 64)) ||| ((1 : Int64) <<< ((nI q).toInt64 &&& 63)))) ∧ ud m (mu_sl Hsa 146 (q / 64) (((Va.2.2.2.2.1 146) (q / 64)) ||| ((1 : Int64) <<< ((nI q).toInt64 &&& 63)))) = (upL Va 146 (q / 64) (((Va.2.2.2.2.1 146) (q / 64)) ||| ((1 : Int64) <<< ((nI q).toInt64 &&& 63)))) := ua.sL (C := C) da rfl
        generalize (mu_sl Hsa 146 (q / 64) (((Va.2.2.2.2.1 146) (q / 64)) ||| ((1 : Int64) <<< ((nI q).toInt64 &&& 63)))) = Q18 at u18 r18 d18 ⊢
        have qf18 : uq F283 U (upL Va 146 (q / 64) (((Va.2.2.2.2.1 146) (q / 64)) ||| ((1 : Int64) <<< ((nI q).toInt64 &&& 63)))) := qfa.L rfl
        have ht18 : ur m C H Q18 := hta.trans r18
        refine mw_go mu_g283 (k := 1) (f1 := (149, [(5, .inl ((nI y) + 1)), (6, .inl (nI q)), (0, .inr (.inr (some 129))), (1, .inl (nI k)), (2, .inl (nI lane)), (3, .inl (nI (((f k) + 63) / 64))), (4, .inl (nI K))], [], Q18)) (C := []) rfl trivial ?_
        rw [(show ((nI y) + 1) = (nI (y + 1)) from (nI_add y 1))]
        refine mw_go mu_g283 (k := 1) (f1 := (94, [(5, .inl (nI (y + 1))), (6, .inl (nI q)), (0, .inr (.inr (some 129))), (1, .inl (nI k)), (2, .inl (nI lane)), (3, .inl (nI (((f k) + 63) / 64))), (4, .inl (nI K))], [], Q18)) (C := []) rfl trivial ?_
        exact mw_sub (by simp) (iha (y + 1, Q18) ⟨u18, ht18, (show uq F283a (upI (upI (upM (upI U 129 11 (0 : Int32)) 146 bf (fun _ => (0 : Int64)) (bt - bf)) 129 19 (nI 0)) 129 20 (nI (((f k) + 63) / 64))) (ud m Q18) from by rw [d18]; exact (zza.L rfl)), (show (y + 1) ≤ K from (by omega)), (show ∀ t, t < 16384 → (bts ((ud m Q18).2.2.2.2.1 146) t = true ↔ t < f k ∧ CHD U f k (y + 1) cv t) from by rw [d18]; exact (fun t ht => by rw [upL_at, chd_s hq1 hqv (fun q2 hq2 y2 => hR.2 k hk q2 q hq2 hq1 (y2.trans hqv.symm)) (by omega) hB ht]))⟩ (by show K - (y + 1) < K - y; omega))
    · -- 152: not (nI y) < (nI K)
      have nh13 : ¬ y < K := fun z => h13 (show nI y < nI K from (nI_ltI (by omega) (by omega)).mpr z)
      refine mw_go mu_g283 (k := 4) (f1 := (158, [(5, .inl (nI y)), (0, .inr (.inr (some 129))), (1, .inl (nI k)), (2, .inl (nI lane)), (3, .inl (nI (((f k) + 63) / 64))), (4, .inl (nI K))], [.inr (.inr (mu_r Hsa 129 18)), .inr (.inr (some 129)), .inr (.inr (some 129))], Hsa)) (C := [mu_is Hsa (some 129) 9]) rfl (show mu_is Hsa (some 129) 9 from (ua.1.1.is rfl)) ?_
      rw [(ua.1.1.r (p := 129) (j := 18) (q := 146) rfl)]
      refine mw_go mu_g283 (k := 2) (f1 := (162, [(5, .inl (nI y)), (0, .inr (.inr (some 129))), (1, .inl (nI k)), (2, .inl (nI lane)), (3, .inl (nI (((f k) + 63) / 64))), (4, .inl (nI K))], [.inr (.inr (mu_r Hsa 129 10)), .inr (.inr (some 146)), .inr (.inr (some 129)), .inr (.inr (some 129))], Hsa)) (C := [mu_is Hsa (some 129) 9]) rfl (show mu_is Hsa (some 129) 9 from (ua.1.1.is rfl)) ?_
      rw [(show mu_r Hsa 129 10 = (U.2.2.2.1 129 10) from (ud_q (U := Va) (m := m) (P := 129) (j := 10) da rfl).trans (zza.r 129 10 rfl))]
      refine mw_go mu_g283 (k := 2) (f1 := (164, [(5, .inl (nI y)), (0, .inr (.inr (some 129))), (1, .inl (nI k)), (2, .inl (nI lane)), (3, .inl (nI (((f k) + 63) / 64))), (4, .inl (nI K))], [.inl (nI (((f k) + 63) / 64)), .inl (0 : Int32), .inr (.inr (U.2.2.2.1 129 10)), .inr (.inr (some 146)), .inr (.inr (some 129)), .inr (.inr (some 129))], Hsa)) (C := []) rfl trivial ?_
      have hyK : y = K := by omega
      rw [hyK] at hB
      refine mw_cI (fun _ => rfl) (show mu_is Hsa (some 129) 9 from (ua.1.1.is rfl)) (by have q := rl_listb10 (d := d) (C := C) (fr := 0) (wd := (f k + 63) / 64) (Z := f k) ua da (fun s hs hb => ((hB s (by omega)).mp hb).1) (by omega) (by rw [(show (Va.2.2.1 129 10).1 = (U.2.2.1 129 10).1 from (zza.n 129 10 rfl))]; omega) (by rw [(show (Va.2.2.1 129 10).1 = (U.2.2.1 129 10).1 from (zza.n 129 10 rfl))]; exact hl10b); rw [show Va.2.2.2.1 129 10 = U.2.2.2.1 129 10 from (zza.r 129 10 rfl)] at q; exact q) (fun x19 Q19 q19 => ?_)
      obtain ⟨n, rfl, u19, r19, z19, ls, hls, hen, -⟩ := q19
      have ht19 : ur m C H Q19 := hta.trans r19
      obtain ⟨V19, d19⟩ : ∃ V, ud m Q19 = V := ⟨_, rfl⟩
      rw [d19] at z19 hls
      have qf19 : uq F283 U V19 := qfa.tr z19 rfl
      obtain ⟨hlr, hlT, hlm⟩ := enw_list (T := f k) hen (fun s q => btu_T q)
      refine mw_go mu_g283 (k := 1) (f1 := (170, [(5, .inl (nI y)), (0, .inr (.inr (some 129))), (1, .inl (nI k)), (2, .inl (nI lane)), (3, .inl (nI (((f k) + 63) / 64))), (4, .inl (nI K))], [], (mu_si Q19 129 11 (nI n)))) (C := [mu_is Q19 (some 129) 9]) rfl (show mu_is Q19 (some 129) 9 from (u19.1.1.is rfl)) ?_
      obtain ⟨u20, r20, d20⟩ : um m (mu_si Q19 129 11 (nI n)) ∧ ur m C Q19 (mu_si Q19 129 11 (nI n)) ∧ ud m (mu_si Q19 129 11 (nI n)) = (upI V19 129 11 (nI n)) := u19.sI (C := C) d19 rfl
      generalize (mu_si Q19 129 11 (nI n)) = Q20 at u20 r20 d20 ⊢
      have qf20 : uq F283 U (upI V19 129 11 (nI n)) := qf19.I rfl
      have ht20 : ur m C H Q20 := ht19.trans r20
      have hzb : BZ Va 0 ((f k + 63) / 64) := BZ.of (zza.i 129 19 rfl) (zza.i 129 20 rfl) (by omega) (by omega) (fun t ht hbt => ⟨Nat.zero_le _, by have y1 := ((hB t ht).mp hbt).1; omega⟩)
      exact mw_of (fun _ => mu_ret rfl trivial ⟨Q20, rfl, u20, ht20, (by rw [d20]; exact qf20), ⟨0, (f k + 63) / 64, (by rw [d20]; exact ⟨⟨(z19.i 129 19 rfl).trans hzb.1.1, (z19.i 129 20 rfl).trans hzb.1.2.1, hzb.1.2.2⟩, fun w hw hn => (by rw [show (upI V19 129 11 (nI n)).2.2.2.2.1 146 = Va.2.2.2.2.1 146 from z19.l 146 rfl]; exact hzb.2 w hw hn)⟩)⟩, n, ls, (by rw [d20]; rfl), (by rw [d20]; exact ⟨fun i hi => (congrArg ((upI V19 129 11 (nI n)).2.2.1 129 10).2 (Nat.zero_add i).symm).trans (hls i hi), hlr, fun x => by rw [hlm x]; unfold btu; rw [Bool.and_eq_true, decide_eq_true_iff]; exact ⟨fun y => ⟨y.2.1, ((hB x (by omega)).mp y.2.2).2⟩, fun y => ⟨by omega, y.1, (hB x (by omega)).mpr y⟩⟩⟩)⟩)
end ListDigits
