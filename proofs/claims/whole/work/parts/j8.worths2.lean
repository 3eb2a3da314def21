/-! SPACE.begin once more: which VARIABLE has which place, what its VALUES are worth -/
/-- how many VARIABLES before v have more than one VALUE -/
def pcn (sz : Nat → Nat) : Nat → Nat
  | 0 => 0
  | v + 1 => pcn sz v + if 1 < sz v then 1 else 0
/-- the sizes by places -/
def pfz (sz : Nat → Nat) : Nat → Nat → Nat
  | 0, _ => 2
  | v + 1, k => if 1 < sz v ∧ pcn sz v = k then sz v else pfz sz v k
section Places2
variable {sz : Nat → Nat} {v w n k : Nat}
theorem pcn_le : ∀ {v n : Nat}, v ≤ n → pcn sz v ≤ pcn sz n := by
  intro v n h
  induction n with
  | zero => rw [show v = 0 by omega]; exact Nat.le_refl _
  | succ n ih =>
    by_cases c : v = n + 1
    · rw [c]; exact Nat.le_refl _
    · exact Nat.le_trans (ih (by omega)) (Nat.le_add_right _ _)
theorem pcn_up (h : 1 < sz v) : pcn sz (v + 1) = pcn sz v + 1 := by
  show pcn sz v + (if 1 < sz v then 1 else 0) = _
  rw [if_pos h]
theorem pcn_same (h : ¬ 1 < sz v) : pcn sz (v + 1) = pcn sz v := by
  show pcn sz v + (if 1 < sz v then 1 else 0) = _
  rw [if_neg h, Nat.add_zero]
theorem pcn_lt (h : 1 < sz w) (hw : w < v) : pcn sz w < pcn sz v := by
  have := pcn_le (sz := sz) (v := w + 1) (n := v) hw
  rw [pcn_up h] at this
  omega
theorem pcn_inj (h : 1 < sz w) (h' : 1 < sz v) (e : pcn sz w = pcn sz v) : w = v := by
  by_cases c : w < v
  · have := pcn_lt h c; omega
  · by_cases c2 : v < w
    · have := pcn_lt h' c2; omega
    · omega
theorem pfz_at : ∀ {n : Nat}, w < n → 1 < sz w → pfz sz n (pcn sz w) = sz w := by
  intro n hw h
  induction n with
  | zero => exact absurd hw (Nat.not_lt_zero _)
  | succ n ih =>
    show (if 1 < sz n ∧ pcn sz n = pcn sz w then sz n else pfz sz n (pcn sz w)) = _
    by_cases c : 1 < sz n ∧ pcn sz n = pcn sz w
    · rw [if_pos c, pcn_inj h c.1 c.2.symm]
    · rw [if_neg c]
      by_cases e : w = n
      · exact absurd ⟨by rw [← e]; exact h, by rw [e]⟩ c
      · exact ih (by omega)
theorem pcn_ex : ∀ {n : Nat}, k < pcn sz n → ∃ w, w < n ∧ 1 < sz w ∧ pcn sz w = k := by
  intro n hk
  induction n with
  | zero => exact absurd hk (Nat.not_lt_zero _)
  | succ n ih =>
    by_cases c : 1 < sz n
    · rw [pcn_up c] at hk
      by_cases e : k = pcn sz n
      · exact ⟨n, Nat.lt_succ_self _, c, e.symm⟩
      · obtain ⟨w, w1, w2⟩ := ih (by omega)
        exact ⟨w, by omega, w2⟩
    · rw [pcn_same c] at hk
      obtain ⟨w, w1, w2⟩ := ih hk
      exact ⟨w, by omega, w2⟩
end Places2
section Begin2
variable {H : mu_H} {U V : Ud} {m d v k q n a N : Nat} {C : Nat → Nat} {sz vr : Nat → Nat}
/-- Space.keepWorths, with what it keeps -/
theorem sp_keepN (h : um m H) (e : ud m H = U) (x : Int32) : mu_TV (mu_D (d + 3)) 269 [.inr (.inr (some 99)), .inl x, .inl (-1 : Int32)] H (fun H1 => H1 = H) := by
  refine mu_meth (M := mu_m269) rfl rfl ?_
  refine mw_ht (mu_fn_of (show [0, 1, 2].Nodup by decide)) ?_
  refine mw_go mu_g269 (k := 1) (f1 := (1, [(0, .inr (.inr (some 99))), (1, .inl x), (2, .inl (-1 : Int32))], [.inl (-1 : Int32)], H)) (C := []) rfl trivial ?_
  refine mw_if (P := (-1 : Int32) < 0) (a := 44) (b := 4) (fun _ => rfl) trivial (fun _ => ?_) (fun z => absurd (by decide) z)
  exact mw_of (fun _ => mu_ret rfl trivial ⟨H, rfl, rfl⟩)

theorem sp_keepW (h : um m H) (e : ud m H = U) (hmo : U.2.2.2.1 99 0 = some m) (hk : k < 14) (hn : (U.2.2.1 99 5).2 k = nI n) (hnb : n ≤ 16384) (ha : (U.2.2.1 99 7).2 k = nI a) (han : a + n ≤ (U.2.2.1 99 8).1) (h8 : (U.2.2.1 99 8).1 ≤ 16777216) (hv : v < 2147483648) : mu_TV (mu_D (d + 3)) 269 [.inr (.inr (some 99)), .inl (nI v), .inl (nI k)] H (fun H1 => um m H1 ∧ ur m C H H1 ∧ ud m H1 = upF U 99 8 a (fun i => wor U.1 v i) n) := by
  refine mu_meth (M := mu_m269) rfl rfl ?_
  refine mw_ht (mu_fn_of (show [0, 1, 2].Nodup by decide)) ?_
  refine mw_go mu_g269 (k := 1) (f1 := (1, [(0, .inr (.inr (some 99))), (1, .inl (nI v)), (2, .inl (nI k))], [.inl (nI k)], H)) (C := []) rfl trivial ?_
  refine mw_if (P := (nI k) < 0) (a := 44) (b := 4) (fun _ => rfl) trivial (fun h1 => absurd h1 (nI_pos (by omega))) (fun h1 => ?_)
  refine mw_go mu_g269 (k := 2) (f1 := (6, [(3, .inl (0 : Int32)), (0, .inr (.inr (some 99))), (1, .inl (nI v)), (2, .inl (nI k))], [], H)) (C := []) rfl trivial ?_
  show mu_W _ _ (6, [(3, .inl (nI 0)), (0, .inr (.inr (some 99))), (1, .inl (nI v)), (2, .inl (nI k))], [], H) _
  refine mw_sub (L' := [(3, .inl (nI 0)), (0, .inr (.inr (some 99))), (1, .inl (nI v)), (2, .inl (nI k))]) (by simp) ?_
  refine mw_down (α := Nat × mu_H) (fun zs => (6, [(3, .inl (nI zs.1)), (0, .inr (.inr (some 99))), (1, .inl (nI v)), (2, .inl (nI k))], [], zs.2)) (fun zs => n - zs.1) (fun zs => um m zs.2 ∧ ur m C H zs.2 ∧ (ud m zs.2 = (upF U 99 8 a (fun i => wor U.1 v i) zs.1)) ∧ (zs.1 ≤ n)) (fun zs hza iha => ?_) (0, H) ⟨h, (ur.refl m C H), (show ud m H = (upF U 99 8 a (fun i => wor U.1 v i) 0) from (by rw [e]; exact upF_zero.symm)), (show 0 ≤ n from (Nat.zero_le _))⟩
  obtain ⟨q, Hsa⟩ := zs
  obtain ⟨ua, hta, da, hq⟩ := hza
  have ua : um m Hsa := ua
  have hta : ur m C H Hsa := hta
  have da : ud m Hsa = (upF U 99 8 a (fun i => wor U.1 v i) q) := da
  have hq : q ≤ n := hq
  show mu_W _ _ (6, [(3, .inl (nI q)), (0, .inr (.inr (some 99))), (1, .inl (nI v)), (2, .inl (nI k))], [], Hsa) _
  refine mw_go mu_g269 (k := 3) (f1 := (11, [(3, .inl (nI q)), (0, .inr (.inr (some 99))), (1, .inl (nI v)), (2, .inl (nI k))], [.inr (.inr (mu_r Hsa 99 5)), .inl (nI q)], Hsa)) (C := [mu_is Hsa (some 99) 13]) rfl (show mu_is Hsa (some 99) 13 from (ua.1.1.is rfl)) ?_
  rw [(ua.1.1.r (p := 99) (j := 5) (q := 120) rfl)]
  refine mw_go mu_g269 (k := 2) (f1 := (13, [(3, .inl (nI q)), (0, .inr (.inr (some 99))), (1, .inl (nI v)), (2, .inl (nI k))], [.inl (mu_i Hsa 120 (nI k).toNatClampNeg), .inl (nI q)], Hsa)) (C := [mu_isr Hsa (some 120) 100, vp_in (nI k) (mu_n Hsa 120)]) rfl (show (mu_isr Hsa (some 120) 100) ∧ (vp_in (nI k) (mu_n Hsa 120)) from ⟨((ua.iA da rfl rfl ((ud_q (m := m) (P := 99) (j := 5) da rfl).symm.trans (ua.1.1.r (p := 99) (j := 5) (q := 120) rfl)))).r, (by rw [show mu_n Hsa 120 = 14 from (ua.1.1.a (p := 120) (x := (100, 14)) rfl).2]; exact vp_in_nI (n := k) (by omega) (by decide))⟩) ?_
  rw [(show (mu_i Hsa 120 (nI k).toNatClampNeg) = (nI n) from ((congrArg (mu_i Hsa 120) (show (nI k).toNatClampNeg = k from nI_clamp (by omega))).trans (ua.gA da rfl rfl ((ud_q (m := m) (P := 99) (j := 5) da rfl).symm.trans (ua.1.1.r (p := 99) (j := 5) (q := 120) rfl)))).trans ((congrArg (fun z => z.2 k) (show (upF U 99 8 a (fun i => wor U.1 v i) q).2.2.1 99 5 = (U.2.2.1 99 5) from rfl)).trans hn))]
  refine mw_if (P := (nI q) < (nI n)) (a := 16) (b := 44) (fun _ => rfl) trivial (fun h2 => ?_) (fun h2 => ?_)
  · -- 16: (nI q) < (nI n)
    have nh2 : q < n := (nI_ltI (by omega) (by omega)).mp (show nI q < nI n from h2)
    refine mw_go mu_g269 (k := 2) (f1 := (20, [(3, .inl (nI q)), (0, .inr (.inr (some 99))), (1, .inl (nI v)), (2, .inl (nI k))], [.inr (.inr (mu_r Hsa 99 8))], Hsa)) (C := [mu_is Hsa (some 99) 13]) rfl (show mu_is Hsa (some 99) 13 from (ua.1.1.is rfl)) ?_
    rw [(show mu_r Hsa 99 8 = (U.2.2.2.1 99 8) from (ud_q (U := (upF U 99 8 a (fun i => wor U.1 v i) q)) (m := m) (P := 99) (j := 8) da rfl))]
    refine mw_go mu_g269 (k := 2) (f1 := (24, [(3, .inl (nI q)), (0, .inr (.inr (some 99))), (1, .inl (nI v)), (2, .inl (nI k))], [.inr (.inr (mu_r Hsa 99 7)), .inr (.inr (U.2.2.2.1 99 8))], Hsa)) (C := [mu_is Hsa (some 99) 13]) rfl (show mu_is Hsa (some 99) 13 from (ua.1.1.is rfl)) ?_
    rw [(ua.1.1.r (p := 99) (j := 7) (q := 122) rfl)]
    refine mw_go mu_g269 (k := 2) (f1 := (26, [(3, .inl (nI q)), (0, .inr (.inr (some 99))), (1, .inl (nI v)), (2, .inl (nI k))], [.inl (mu_i Hsa 122 (nI k).toNatClampNeg), .inr (.inr (U.2.2.2.1 99 8))], Hsa)) (C := [mu_isr Hsa (some 122) 100, vp_in (nI k) (mu_n Hsa 122)]) rfl (show (mu_isr Hsa (some 122) 100) ∧ (vp_in (nI k) (mu_n Hsa 122)) from ⟨((ua.iA da rfl rfl ((ud_q (m := m) (P := 99) (j := 7) da rfl).symm.trans (ua.1.1.r (p := 99) (j := 7) (q := 122) rfl)))).r, (by rw [show mu_n Hsa 122 = 14 from (ua.1.1.a (p := 122) (x := (100, 14)) rfl).2]; exact vp_in_nI (n := k) (by omega) (by decide))⟩) ?_
    rw [(show (mu_i Hsa 122 (nI k).toNatClampNeg) = (nI a) from ((congrArg (mu_i Hsa 122) (show (nI k).toNatClampNeg = k from nI_clamp (by omega))).trans (ua.gA da rfl rfl ((ud_q (m := m) (P := 99) (j := 7) da rfl).symm.trans (ua.1.1.r (p := 99) (j := 7) (q := 122) rfl)))).trans ((congrArg (fun z => z.2 k) (show (upF U 99 8 a (fun i => wor U.1 v i) q).2.2.1 99 7 = (U.2.2.1 99 7) from rfl)).trans ha))]
    refine mw_go mu_g269 (k := 2) (f1 := (28, [(3, .inl (nI q)), (0, .inr (.inr (some 99))), (1, .inl (nI v)), (2, .inl (nI k))], [.inl ((nI a) + (nI q)), .inr (.inr (U.2.2.2.1 99 8))], Hsa)) (C := []) rfl trivial ?_
    rw [(show ((nI a) + (nI q)) = (nI (a + q)) from (nI_add a q))]
    refine mw_go mu_g269 (k := 2) (f1 := (32, [(3, .inl (nI q)), (0, .inr (.inr (some 99))), (1, .inl (nI v)), (2, .inl (nI k))], [.inr (.inr (mu_r Hsa 99 0)), .inl (nI (a + q)), .inr (.inr (U.2.2.2.1 99 8))], Hsa)) (C := [mu_is Hsa (some 99) 13]) rfl (show mu_is Hsa (some 99) 13 from (ua.1.1.is rfl)) ?_
    rw [(show mu_r Hsa 99 0 = (some m) from (ud_q (U := (upF U 99 8 a (fun i => wor U.1 v i) q)) (m := m) (P := 99) (j := 0) da rfl).trans hmo)]
    refine mw_go mu_g269 (k := 2) (f1 := (34, [(3, .inl (nI q)), (0, .inr (.inr (some 99))), (1, .inl (nI v)), (2, .inl (nI k))], [.inl (nI q), .inl (nI v), .inr (.inr (some m)), .inl (nI (a + q)), .inr (.inr (U.2.2.2.1 99 8))], Hsa)) (C := []) rfl trivial ?_
    refine mw_cIe (fun _ => rfl) (show mu_is Hsa (some m) 6 from (show mu_is Hsa (some m) 6 from gi_im ua.1.1 ua.2)) (um_worth (d := d) (v := v) (k := q) ua da (by omega)) ?_
    rw [show wor (upF U 99 8 a (fun i => wor U.1 v i) q).1 v q = wor U.1 v q from rfl]
    refine mw_go mu_g269 (k := 1) (f1 := (38, [(3, .inl (nI q)), (0, .inr (.inr (some 99))), (1, .inl (nI v)), (2, .inl (nI k))], [], (mu_si Hsa (mu_p (U.2.2.2.1 99 8)) (nI (a + q)).toNatClampNeg (wor U.1 v q)))) (C := [mu_is Hsa (U.2.2.2.1 99 8) 100, vp_in (nI (a + q)) (mu_n Hsa (mu_p (U.2.2.2.1 99 8)))]) rfl (show (mu_is Hsa (U.2.2.2.1 99 8) 100) ∧ (vp_in (nI (a + q)) (mu_n Hsa (mu_p (U.2.2.2.1 99 8)))) from ⟨(ua.iA da rfl rfl (show (upF U 99 8 a (fun i => wor U.1 v i) q).2.2.2.1 99 8 = (U.2.2.2.1 99 8) from rfl)), (ua.vA (i := a + q) da rfl rfl (show (upF U 99 8 a (fun i => wor U.1 v i) q).2.2.2.1 99 8 = (U.2.2.2.1 99 8) from rfl) (show ((upF U 99 8 a (fun i => wor U.1 v i) q).2.2.1 99 8).1 = (U.2.2.1 99 8).1 from rfl) (by omega) (by omega))⟩) ?_
    rw [(show (nI (a + q)).toNatClampNeg = a + q from nI_clamp (by omega))]
    obtain ⟨u4, r4, d4⟩ : um m (mu_si Hsa (mu_p (U.2.2.2.1 99 8)) (a + q) (wor U.1 v q)) ∧ ur m C Hsa (mu_si Hsa (mu_p (U.2.2.2.1 99 8)) (a + q) (wor U.1 v q)) ∧ ud m (mu_si Hsa (mu_p (U.2.2.2.1 99 8)) (a + q) (wor U.1 v q)) = (upA (upF U 99 8 a (fun i => wor U.1 v i) q) 99 8 (a + q) (wor U.1 v q)) := ua.sA (C := C) da rfl rfl (show (upF U 99 8 a (fun i => wor U.1 v i) q).2.2.2.1 99 8 = (U.2.2.2.1 99 8) from rfl)
    generalize (mu_si Hsa (mu_p (U.2.2.2.1 99 8)) (a + q) (wor U.1 v q)) = Q4 at u4 r4 d4 ⊢
    have ht4 : ur m C H Q4 := hta.trans r4
    refine mw_go mu_g269 (k := 1) (f1 := (41, [(3, .inl ((nI q) + 1)), (0, .inr (.inr (some 99))), (1, .inl (nI v)), (2, .inl (nI k))], [], Q4)) (C := []) rfl trivial ?_
    rw [(show ((nI q) + 1) = (nI (q + 1)) from (nI_add q 1))]
    refine mw_go mu_g269 (k := 1) (f1 := (6, [(3, .inl (nI (q + 1))), (0, .inr (.inr (some 99))), (1, .inl (nI v)), (2, .inl (nI k))], [], Q4)) (C := []) rfl trivial ?_
    exact mw_sub (by simp) (iha (q + 1, Q4) ⟨u4, ht4, (show ud m Q4 = (upF U 99 8 a (fun i => wor U.1 v i) (q + 1)) from (by rw [d4]; exact upF_next2 rfl)), (show (q + 1) ≤ n from (by omega))⟩ (by show n - (q + 1) < n - q; omega))
  · -- 44: not (nI q) < (nI n)
    have nh2 : ¬ q < n := fun z => h2 (show nI q < nI n from (nI_ltI (by omega) (by omega)).mpr z)
    exact mw_of (fun _ => mu_ret rfl trivial ⟨Hsa, rfl, ua, hta, (da).trans (upF_to (by omega) rfl)⟩)
end Begin2
