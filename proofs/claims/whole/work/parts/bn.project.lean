/-! Space.project -/
def adn (mk : Int32) (f : Nat → Nat) (P n : Nat) : Nat → Nat
  | 0 => 0
  | q + 1 => adn mk f P n q + (if mb mk (P - 1 - n) = 0 then 0 else wn mk f P n)
section Project
variable {H : mu_H} {m d P k s n st q : Nat} {C : Nat → Nat} {U V : Ud} {f : Nat → Nat} {mk : Int32}
theorem pj_low (hs : s < pd f (P - n) n) : pj mk f P (n + 1) s = pj mk f P n s := by
  show pj mk f P n (s % pd f (P - n) n) + (if mb mk (P - 1 - n) = 0 then 0 else s / pd f (P - n) n * wn mk f P n) = _
  rw [Nat.mod_eq_of_lt hs, Nat.div_eq_of_lt hs, Nat.zero_mul, ite_self, Nat.add_zero]
theorem adn_eq : adn mk f P n q = if mb mk (P - 1 - n) = 0 then 0 else q * wn mk f P n := by
  induction q with
  | zero => rw [Nat.zero_mul, ite_self]; rfl
  | succ q ih =>
    show adn mk f P n q + (if mb mk (P - 1 - n) = 0 then 0 else wn mk f P n) = _
    rw [ih]
    by_cases e : mb mk (P - 1 - n) = 0
    · rw [if_pos e, if_pos e, if_pos e]
    · rw [if_neg e, if_neg e, if_neg e, Nat.succ_mul]
theorem pj_step {j : Nat} (hj : j < pd f (P - n) n) : pj mk f P (n + 1) (q * pd f (P - n) n + j) = pj mk f P (n + 1) j + adn mk f P n q := by
  rw [pj_low hj]
  show pj mk f P n ((q * pd f (P - n) n + j) % pd f (P - n) n) + (if mb mk (P - 1 - n) = 0 then 0 else (q * pd f (P - n) n + j) / pd f (P - n) n * wn mk f P n) = _
  rw [Nat.mul_comm q, Nat.mul_add_mod, Nat.mod_eq_of_lt hj, Nat.mul_add_div (by omega), Nat.div_eq_of_lt hj, Nat.add_zero, adn_eq]
theorem adn_in (h : ¬ mb mk (P - 1 - n) = 0) (hq : 1 ≤ q) : adn mk f P n (q - 1) + wn mk f P n = adn mk f P n q := by
  obtain ⟨r, rfl⟩ : ∃ r, q = r + 1 := ⟨q - 1, by omega⟩
  show _ = adn mk f P n r + (if mb mk (P - 1 - n) = 0 then 0 else wn mk f P n)
  rw [if_neg h, Nat.add_sub_cancel]
theorem adn_out (h : mb mk (P - 1 - n) = 0) (hq : 1 ≤ q) : adn mk f P n (q - 1) + 0 = adn mk f P n q := by
  obtain ⟨r, rfl⟩ : ∃ r, q = r + 1 := ⟨q - 1, by omega⟩
  show _ = adn mk f P n r + (if mb mk (P - 1 - n) = 0 then 0 else wn mk f P n)
  rw [if_pos h, Nat.add_sub_cancel]
theorem pd_next (hn : n < P) : pd f (P - (n + 1)) (n + 1) = f (P - 1 - n) * pd f (P - n) n := by
  rw [pd_head, show P - (n + 1) = P - 1 - n by omega, show P - 1 - n + 1 = P - n by omega]
theorem nI_lo1 {a : Nat} (h : 1 ≤ a) (ha : a < 2147483648) : ¬ nI a - 1 < 0 := by
  rw [show nI a - 1 = nI (a - 1) from nI_sub (a := a) (b := 1) h]
  exact nI_pos (by omega)
def F261a : Uf := ⟨[], [], [(99, 18)], [], [], false⟩
def F261b : Uf := ⟨[], [], [(99, 18)], [], [], false⟩
def F261c : Uf := ⟨[], [], [(99, 18)], [], [], false⟩
/-- PathProver$Space.project(I)V -/
abbrev mu_m261 : ev_M := (9, none, [], ev_b261)
theorem mu_g261 : mu_good mu_m261 := mu_goodk ev_k261
def F261 : Uf := ⟨[], [], [(99, 18)], [], [], false⟩
theorem sp_project (h : um m H) (e : ud m H = U) (hS : spx m U P f) : mu_TV (mu_D (d + 1)) 261 [.inr (.inr (some 99)), .inl mk] H (fun H1 => um m H1 ∧ ur m C H H1 ∧ uq F261 U (ud m H1) ∧ ∀ s, s < pd f 0 P → ((ud m H1).2.2.1 99 18).2 s = nI (pj mk f P P s)) := by
  obtain ⟨⟨s4, s10, s11, s12⟩, hk5, ⟨g8, g8b, g18, g18b⟩, ⟨gP, gpd, gsm⟩, hsp, hmo⟩ := hS
  have hf := fun k hk => Nat.le_trans (show 1 ≤ 2 by decide) (hk5 k hk).2.2.2
  refine mu_meth (M := mu_m261) rfl rfl ?_
  refine mw_ht (mu_fn_of (show [0, 1].Nodup by decide)) ?_
  refine mw_go mu_g261 (k := 4) (f1 := (6, [(2, .inl (1 : Int32)), (0, .inr (.inr (some 99))), (1, .inl mk)], [.inr (.inr (mu_r H 99 18))], H)) (C := [mu_is H (some 99) 13]) rfl (show mu_is H (some 99) 13 from (h.1.1.is rfl)) ?_
  rw [(show mu_r H 99 18 = (U.2.2.2.1 99 18) from (ud_q (U := U) (m := m) (P := 99) (j := 18) e rfl))]
  refine mw_go mu_g261 (k := 3) (f1 := (9, [(2, .inl (1 : Int32)), (0, .inr (.inr (some 99))), (1, .inl mk)], [], (mu_si H (mu_p (U.2.2.2.1 99 18)) (0 : Int32).toNatClampNeg (0 : Int32)))) (C := [mu_is H (U.2.2.2.1 99 18) 100, vp_in (0 : Int32) (mu_n H (mu_p (U.2.2.2.1 99 18)))]) rfl (show (mu_is H (U.2.2.2.1 99 18) 100) ∧ (vp_in (0 : Int32) (mu_n H (mu_p (U.2.2.2.1 99 18)))) from ⟨(h.iA e rfl rfl (show U.2.2.2.1 99 18 = (U.2.2.2.1 99 18) from rfl)), (h.vA (i := 0) e rfl rfl (show U.2.2.2.1 99 18 = (U.2.2.2.1 99 18) from rfl) (show (U.2.2.1 99 18).1 = (U.2.2.1 99 18).1 from rfl) (by omega) (by omega))⟩) ?_
  rw [(show (0 : Int32).toNatClampNeg = 0 from by decide)]
  obtain ⟨u1, r1, d1⟩ : um m (mu_si H (mu_p (U.2.2.2.1 99 18)) 0 (0 : Int32)) ∧ ur m C H (mu_si H (mu_p (U.2.2.2.1 99 18)) 0 (0 : Int32)) ∧ ud m (mu_si H (mu_p (U.2.2.2.1 99 18)) 0 (0 : Int32)) = (upA U 99 18 0 (0 : Int32)) := h.sA (C := C) e rfl rfl (show U.2.2.2.1 99 18 = (U.2.2.2.1 99 18) from rfl)
  generalize (mu_si H (mu_p (U.2.2.2.1 99 18)) 0 (0 : Int32)) = Q1 at u1 r1 d1 ⊢
  have qf1 : uq F261 U (upA U 99 18 0 (0 : Int32)) := (uq.refl F261 U).A rfl
  have ht1 : ur m C H Q1 := (ur.refl m C H).trans r1
  refine mw_go mu_g261 (k := 2) (f1 := (13, [(2, .inl (1 : Int32)), (0, .inr (.inr (some 99))), (1, .inl mk)], [.inl (mu_i Q1 99 4)], Q1)) (C := [mu_is Q1 (some 99) 13]) rfl (show mu_is Q1 (some 99) 13 from (u1.1.1.is rfl)) ?_
  rw [(show mu_i Q1 99 4 = (nI P) from (ud_i (U := (upA U 99 18 0 (0 : Int32))) (m := m) (P := 99) (j := 4) d1 rfl).trans s4)]
  refine mw_go mu_g261 (k := 3) (f1 := (16, [(3, .inl ((nI P) - (1 : Int32))), (2, .inl (1 : Int32)), (0, .inr (.inr (some 99))), (1, .inl mk)], [], Q1)) (C := []) rfl trivial ?_
  show mu_W _ _ (16, [(3, .inl (nI (P - 0) - (1 : Int32))), (2, .inl (nI (wn mk f P 0))), (0, .inr (.inr (some 99))), (1, .inl mk)], [], Q1) _
  refine mw_sub (L' := [(3, .inl (nI (P - 0) - (1 : Int32))), (2, .inl (nI (wn mk f P 0))), (0, .inr (.inr (some 99))), (1, .inl mk)]) (by simp) ?_
  refine mw_down (α := Nat × mu_H) (fun zs => (16, [(3, .inl (nI (P - zs.1) - (1 : Int32))), (2, .inl (nI (wn mk f P zs.1))), (0, .inr (.inr (some 99))), (1, .inl mk)], [], zs.2)) (fun zs => P - zs.1) (fun zs => um m zs.2 ∧ ur m C H zs.2 ∧ (uq F261a (upA U 99 18 0 (0 : Int32)) (ud m zs.2)) ∧ (zs.1 ≤ P) ∧ (∀ s, s < pd f (P - zs.1) zs.1 → ((ud m zs.2).2.2.1 99 18).2 s = nI (pj mk f P zs.1 s))) (fun zs hza iha => ?_) (0, Q1) ⟨u1, ht1, (show uq F261a (upA U 99 18 0 (0 : Int32)) (ud m Q1) from by rw [d1]; exact uq.refl _ _), (show 0 ≤ P from (by omega)), (show ∀ s, s < pd f (P - 0) 0 → ((ud m Q1).2.2.1 99 18).2 s = nI (pj mk f P 0 s) from by rw [d1]; exact (fun s hs => by rw [show s = 0 from Nat.lt_one_iff.mp hs]; rfl))⟩
  obtain ⟨n, Hsa⟩ := zs
  obtain ⟨ua, hta, da, hn, hC⟩ := hza
  have ua : um m Hsa := ua
  have hta : ur m C H Hsa := hta
  have zza : uq F261a (upA U 99 18 0 (0 : Int32)) (ud m Hsa) := da
  have hn : n ≤ P := hn
  have hC : ∀ s, s < pd f (P - n) n → ((ud m Hsa).2.2.1 99 18).2 s = nI (pj mk f P n s) := hC
  obtain ⟨Va, da⟩ : ∃ V, ud m Hsa = V := ⟨_, rfl⟩
  rw [da] at zza hC
  have qfa : uq F261 U Va := qf1.tr zza rfl
  show mu_W _ _ (16, [(3, .inl (nI (P - n) - (1 : Int32))), (2, .inl (nI (wn mk f P n))), (0, .inr (.inr (some 99))), (1, .inl mk)], [], Hsa) _
  refine mw_go mu_g261 (k := 1) (f1 := (17, [(3, .inl (nI (P - n) - (1 : Int32))), (2, .inl (nI (wn mk f P n))), (0, .inr (.inr (some 99))), (1, .inl mk)], [.inl (nI (P - n) - (1 : Int32))], Hsa)) (C := []) rfl trivial ?_
  refine mw_if (P := (nI (P - n) - (1 : Int32)) < 0) (a := 148) (b := 20) (fun _ => rfl) trivial (fun h2 => ?_) (fun h2 => ?_)
  · -- 148: (nI (P - n) - (1 : Int32)) < 0
    have hnP : n = P := Nat.le_antisymm hn (Nat.le_of_not_lt (fun y => nI_lo1 (a := P - n) (by omega) (by omega) h2))
    exact mw_of (fun _ => mu_ret rfl trivial ⟨Hsa, rfl, ua, hta, (by rw [da]; exact qfa), (by rw [da]; exact (fun s hs => by have z := hC s (by rw [hnP, Nat.sub_self]; exact hs); rw [hnP] at z; exact z))⟩)
  · -- 20: not (nI (P - n) - (1 : Int32)) < 0
    have hnP : n < P := Nat.lt_of_le_of_ne hn (fun y => h2 (by rw [show P - n = 0 by omega]; decide))
    have e1 := pd_next (f := f) hnP
    have ht1 := pd_tail hf (k := P - (n + 1)) (by omega)
    rw [show P - (P - (n + 1)) = n + 1 by omega, e1] at ht1
    have ht2 := pd_tail hf (k := P - n) (by omega)
    rw [show P - (P - n) = n by omega] at ht2
    have hw := wn_le (mk := mk) hf (n := n) (by omega)
    have hf2 := (hk5 (P - 1 - n) (by omega)).2.2.2
    have hfb : f (P - 1 - n) ≤ 16384 := Nat.le_trans (Nat.le_mul_of_pos_right _ ht2.1) (Nat.le_trans ht1.2 gpd)
    rw [show nI (P - n) - (1 : Int32) = nI (P - 1 - n) from (nI_sub (a := P - n) (b := 1) (by omega)).trans (congrArg nI (by omega))]
    refine mw_go mu_g261 (k := 5) (f1 := (25, [(3, .inl (nI (P - 1 - n))), (2, .inl (nI (wn mk f P n))), (0, .inr (.inr (some 99))), (1, .inl mk)], [.inl (((mk.toUInt32 >>> ((nI (P - 1 - n)).toUInt32 &&& Int32.toUInt32 31)).toInt32) &&& (1 : Int32))], Hsa)) (C := []) rfl trivial ?_
    refine mw_if (P := (((mk.toUInt32 >>> ((nI (P - 1 - n)).toUInt32 &&& Int32.toUInt32 31)).toInt32) &&& (1 : Int32)) = 0) (a := 32) (b := 28) (fun _ => rfl) trivial (fun h3 => ?_) (fun h3 => ?_)
    · -- 32: (((mk.toUInt32 >>> ((nI (P - 1 - n)).toUInt32 &&& Int32.toUInt32 31)).toInt32) &&& (1 : Int32)) = 0
      refine mw_go mu_g261 (k := 6) (f1 := (41, [(6, .inl (1 : Int32)), (5, .inl (0 : Int32)), (4, .inl (0 : Int32)), (3, .inl (nI (P - 1 - n))), (2, .inl (nI (wn mk f P n))), (0, .inr (.inr (some 99))), (1, .inl mk)], [], Hsa)) (C := []) rfl trivial ?_
      show mu_W _ _ (41, [(6, .inl (nI 1)), (5, .inl (nI (adn mk f P n (1 - 1)))), (4, .inl (0 : Int32)), (3, .inl (nI (P - 1 - n))), (2, .inl (nI (wn mk f P n))), (0, .inr (.inr (some 99))), (1, .inl mk)], [], Hsa) _
      refine mw_sub (L' := [(6, .inl (nI 1)), (5, .inl (nI (adn mk f P n (1 - 1)))), (0, .inr (.inr (some 99))), (1, .inl mk), (2, .inl (nI (wn mk f P n))), (3, .inl (nI (P - 1 - n))), (4, .inl (0 : Int32))]) (by simp) ?_
      refine mw_down (α := Nat × mu_H) (fun zs => (41, [(6, .inl (nI zs.1)), (5, .inl (nI (adn mk f P n (zs.1 - 1)))), (0, .inr (.inr (some 99))), (1, .inl mk), (2, .inl (nI (wn mk f P n))), (3, .inl (nI (P - 1 - n))), (4, .inl (0 : Int32))], [], zs.2)) (fun zs => f (P - 1 - n) - zs.1) (fun zs => um m zs.2 ∧ ur m C H zs.2 ∧ (uq F261b Va (ud m zs.2)) ∧ (1 ≤ zs.1) ∧ (zs.1 ≤ f (P - 1 - n)) ∧ (∀ s, s < zs.1 * pd f (P - n) n → ((ud m zs.2).2.2.1 99 18).2 s = nI (pj mk f P (n + 1) s))) (fun zs hzb ihb => ?_) (1, Hsa) ⟨ua, hta, (show uq F261b Va (ud m Hsa) from by rw [da]; exact uq.refl _ _), (show 1 ≤ 1 from (by omega)), (show 1 ≤ f (P - 1 - n) from (by omega)), (show ∀ s, s < 1 * pd f (P - n) n → ((ud m Hsa).2.2.1 99 18).2 s = nI (pj mk f P (n + 1) s) from by rw [da]; exact (fun s hs => by rw [Nat.one_mul] at hs; rw [pj_low hs]; exact hC s hs))⟩
      obtain ⟨dd, Hsb⟩ := zs
      obtain ⟨ub, htb, db, h1d, hdf, hD⟩ := hzb
      have ub : um m Hsb := ub
      have htb : ur m C H Hsb := htb
      have zzb : uq F261b Va (ud m Hsb) := db
      have h1d : 1 ≤ dd := h1d
      have hdf : dd ≤ f (P - 1 - n) := hdf
      have hD : ∀ s, s < dd * pd f (P - n) n → ((ud m Hsb).2.2.1 99 18).2 s = nI (pj mk f P (n + 1) s) := hD
      obtain ⟨Vb, db⟩ : ∃ V, ud m Hsb = V := ⟨_, rfl⟩
      rw [db] at zzb hD
      have qfb : uq F261 U Vb := qfa.tr zzb rfl
      show mu_W _ _ (41, [(6, .inl (nI dd)), (5, .inl (nI (adn mk f P n (dd - 1)))), (0, .inr (.inr (some 99))), (1, .inl mk), (2, .inl (nI (wn mk f P n))), (3, .inl (nI (P - 1 - n))), (4, .inl (0 : Int32))], [], Hsb) _
      refine mw_go mu_g261 (k := 3) (f1 := (47, [(6, .inl (nI dd)), (5, .inl (nI (adn mk f P n (dd - 1)))), (0, .inr (.inr (some 99))), (1, .inl mk), (2, .inl (nI (wn mk f P n))), (3, .inl (nI (P - 1 - n))), (4, .inl (0 : Int32))], [.inr (.inr (mu_r Hsb 99 5)), .inl (nI dd)], Hsb)) (C := [mu_is Hsb (some 99) 13]) rfl (show mu_is Hsb (some 99) 13 from (ub.1.1.is rfl)) ?_
      rw [(ub.1.1.r (p := 99) (j := 5) (q := 120) rfl)]
      refine mw_go mu_g261 (k := 2) (f1 := (49, [(6, .inl (nI dd)), (5, .inl (nI (adn mk f P n (dd - 1)))), (0, .inr (.inr (some 99))), (1, .inl mk), (2, .inl (nI (wn mk f P n))), (3, .inl (nI (P - 1 - n))), (4, .inl (0 : Int32))], [.inl (mu_i Hsb 120 (nI (P - 1 - n)).toNatClampNeg), .inl (nI dd)], Hsb)) (C := [mu_isr Hsb (some 120) 100, vp_in (nI (P - 1 - n)) (mu_n Hsb 120)]) rfl (show (mu_isr Hsb (some 120) 100) ∧ (vp_in (nI (P - 1 - n)) (mu_n Hsb 120)) from ⟨((ub.iA db rfl rfl ((ud_q (m := m) (P := 99) (j := 5) db rfl).symm.trans (ub.1.1.r (p := 99) (j := 5) (q := 120) rfl)))).r, (by rw [show mu_n Hsb 120 = 14 from (ub.1.1.a (p := 120) (x := (100, 14)) rfl).2]; exact vp_in_nI (n := P - 1 - n) (by omega) (by decide))⟩) ?_
      rw [(show (mu_i Hsb 120 (nI (P - 1 - n)).toNatClampNeg) = (nI (f (P - 1 - n))) from ((congrArg (mu_i Hsb 120) (show (nI (P - 1 - n)).toNatClampNeg = P - 1 - n from nI_clamp (by omega))).trans (ub.gA db rfl rfl ((ud_q (m := m) (P := 99) (j := 5) db rfl).symm.trans (ub.1.1.r (p := 99) (j := 5) (q := 120) rfl)))).trans ((congrArg (fun z => z.2 (P - 1 - n)) (show Vb.2.2.1 99 5 = (U.2.2.1 99 5) from ((zzb.a 99 5 rfl).trans (zza.a 99 5 rfl)))).trans (hk5 (P - 1 - n) (by omega)).1))]
      refine mw_if (P := (nI dd) < (nI (f (P - 1 - n)))) (a := 52) (b := 124) (fun _ => rfl) trivial (fun h4 => ?_) (fun h4 => ?_)
      · -- 52: (nI dd) < (nI (f (P - 1 - n)))
        have nh4 : dd < (f (P - 1 - n)) := (nI_ltI (by omega) (by omega)).mp (show nI dd < nI (f (P - 1 - n)) from h4)
        have hb1 := Nat.mul_le_mul_right (pd f (P - n) n) (show dd + 1 ≤ f (P - 1 - n) by omega)
        rw [Nat.succ_mul] at hb1
        have hb2 := Nat.le_mul_of_pos_left (pd f (P - n) n) (show 0 < dd by omega)
        have hb3 : adn mk f P n (dd - 1) + wn mk f P n ≤ 16384 * 16384 + 16384 := by
          rw [adn_eq]
          by_cases ee : mb mk (P - 1 - n) = 0
          · rw [if_pos ee]; omega
          · rw [if_neg ee]; have := Nat.mul_le_mul (show dd - 1 ≤ 16384 by omega) (show wn mk f P n ≤ 16384 by omega); omega
        refine mw_go mu_g261 (k := 2) (f1 := (56, [(6, .inl (nI dd)), (5, .inl (nI (adn mk f P n (dd - 1)))), (0, .inr (.inr (some 99))), (1, .inl mk), (2, .inl (nI (wn mk f P n))), (3, .inl (nI (P - 1 - n))), (4, .inl (0 : Int32))], [.inl (0 : Int32), .inl (nI (adn mk f P n (dd - 1)))], Hsb)) (C := []) rfl trivial ?_
        refine mw_if (P := (0 : Int32) = 0) (a := 63) (b := 59) (fun _ => rfl) trivial (fun h5 => ?_) (fun h5 => absurd (by decide) h5)
        refine mw_go mu_g261 (k := 2) (f1 := (65, [(6, .inl (nI dd)), (5, .inl (nI (adn mk f P n (dd - 1)))), (0, .inr (.inr (some 99))), (1, .inl mk), (2, .inl (nI (wn mk f P n))), (3, .inl (nI (P - 1 - n))), (4, .inl (0 : Int32))], [.inl ((nI (adn mk f P n (dd - 1))) + (0 : Int32))], Hsb)) (C := []) rfl trivial ?_
        rw [(show ((nI (adn mk f P n (dd - 1))) + (0 : Int32)) = (nI ((adn mk f P n (dd - 1)) + 0)) from (nI_add (adn mk f P n (dd - 1)) 0))]
        refine mw_go mu_g261 (k := 1) (f1 := (67, [(5, .inl (nI ((adn mk f P n (dd - 1)) + 0))), (6, .inl (nI dd)), (0, .inr (.inr (some 99))), (1, .inl mk), (2, .inl (nI (wn mk f P n))), (3, .inl (nI (P - 1 - n))), (4, .inl (0 : Int32))], [], Hsb)) (C := []) rfl trivial ?_
        rw [show (nI ((adn mk f P n (dd - 1)) + 0)) = nI (adn mk f P n dd) from congrArg nI (adn_out (show mb mk (P - 1 - n) = 0 from h3) (by omega))]
        refine mw_go mu_g261 (k := 3) (f1 := (73, [(5, .inl (nI (adn mk f P n dd))), (6, .inl (nI dd)), (0, .inr (.inr (some 99))), (1, .inl mk), (2, .inl (nI (wn mk f P n))), (3, .inl (nI (P - 1 - n))), (4, .inl (0 : Int32))], [.inr (.inr (mu_r Hsb 99 6)), .inl (nI dd)], Hsb)) (C := [mu_is Hsb (some 99) 13]) rfl (show mu_is Hsb (some 99) 13 from (ub.1.1.is rfl)) ?_
        rw [(ub.1.1.r (p := 99) (j := 6) (q := 121) rfl)]
        refine mw_go mu_g261 (k := 2) (f1 := (75, [(5, .inl (nI (adn mk f P n dd))), (6, .inl (nI dd)), (0, .inr (.inr (some 99))), (1, .inl mk), (2, .inl (nI (wn mk f P n))), (3, .inl (nI (P - 1 - n))), (4, .inl (0 : Int32))], [.inl (mu_i Hsb 121 (nI (P - 1 - n)).toNatClampNeg), .inl (nI dd)], Hsb)) (C := [mu_isr Hsb (some 121) 100, vp_in (nI (P - 1 - n)) (mu_n Hsb 121)]) rfl (show (mu_isr Hsb (some 121) 100) ∧ (vp_in (nI (P - 1 - n)) (mu_n Hsb 121)) from ⟨((ub.iA db rfl rfl ((ud_q (m := m) (P := 99) (j := 6) db rfl).symm.trans (ub.1.1.r (p := 99) (j := 6) (q := 121) rfl)))).r, (by rw [show mu_n Hsb 121 = 14 from (ub.1.1.a (p := 121) (x := (100, 14)) rfl).2]; exact vp_in_nI (n := P - 1 - n) (by omega) (by decide))⟩) ?_
        rw [(show (mu_i Hsb 121 (nI (P - 1 - n)).toNatClampNeg) = (nI (pd f (P - n) n)) from ((congrArg (mu_i Hsb 121) (show (nI (P - 1 - n)).toNatClampNeg = P - 1 - n from nI_clamp (by omega))).trans (ub.gA db rfl rfl ((ud_q (m := m) (P := 99) (j := 6) db rfl).symm.trans (ub.1.1.r (p := 99) (j := 6) (q := 121) rfl)))).trans ((congrArg (fun z => z.2 (P - 1 - n)) (show Vb.2.2.1 99 6 = (U.2.2.1 99 6) from ((zzb.a 99 6 rfl).trans (zza.a 99 6 rfl)))).trans ((hk5 (P - 1 - n) (by omega)).2.2.1.trans (congrArg nI (by rw [show P - 1 - n + 1 = P - n by omega, show P - 1 - (P - 1 - n) = n by omega])))))]
        refine mw_go mu_g261 (k := 1) (f1 := (76, [(5, .inl (nI (adn mk f P n dd))), (6, .inl (nI dd)), (0, .inr (.inr (some 99))), (1, .inl mk), (2, .inl (nI (wn mk f P n))), (3, .inl (nI (P - 1 - n))), (4, .inl (0 : Int32))], [.inl ((nI dd) * (nI (pd f (P - n) n)))], Hsb)) (C := []) rfl trivial ?_
        rw [(show ((nI dd) * (nI (pd f (P - n) n))) = (nI (dd * (pd f (P - n) n))) from (nI_mul (a := dd) (b := pd f (P - n) n)))]
        refine mw_go mu_g261 (k := 3) (f1 := (81, [(8, .inl (0 : Int32)), (7, .inl (nI (dd * (pd f (P - n) n)))), (5, .inl (nI (adn mk f P n dd))), (6, .inl (nI dd)), (0, .inr (.inr (some 99))), (1, .inl mk), (2, .inl (nI (wn mk f P n))), (3, .inl (nI (P - 1 - n))), (4, .inl (0 : Int32))], [], Hsb)) (C := []) rfl trivial ?_
        show mu_W _ _ (81, [(8, .inl (nI 0)), (7, .inl (nI (dd * (pd f (P - n) n)))), (5, .inl (nI (adn mk f P n dd))), (6, .inl (nI dd)), (0, .inr (.inr (some 99))), (1, .inl mk), (2, .inl (nI (wn mk f P n))), (3, .inl (nI (P - 1 - n))), (4, .inl (0 : Int32))], [], Hsb) _
        refine mw_sub (L' := [(8, .inl (nI 0)), (0, .inr (.inr (some 99))), (1, .inl mk), (2, .inl (nI (wn mk f P n))), (3, .inl (nI (P - 1 - n))), (4, .inl (0 : Int32)), (5, .inl (nI (adn mk f P n dd))), (6, .inl (nI dd)), (7, .inl (nI (dd * (pd f (P - n) n))))]) (by simp) ?_
        refine mw_down (α := Nat × mu_H) (fun zs => (81, [(8, .inl (nI zs.1)), (0, .inr (.inr (some 99))), (1, .inl mk), (2, .inl (nI (wn mk f P n))), (3, .inl (nI (P - 1 - n))), (4, .inl (0 : Int32)), (5, .inl (nI (adn mk f P n dd))), (6, .inl (nI dd)), (7, .inl (nI (dd * (pd f (P - n) n))))], [], zs.2)) (fun zs => pd f (P - n) n - zs.1) (fun zs => um m zs.2 ∧ ur m C H zs.2 ∧ (uq F261c Vb (ud m zs.2)) ∧ (zs.1 ≤ pd f (P - n) n) ∧ (∀ s, s < dd * pd f (P - n) n + zs.1 → ((ud m zs.2).2.2.1 99 18).2 s = nI (pj mk f P (n + 1) s))) (fun zs hzc ihc => ?_) (0, Hsb) ⟨ub, htb, (show uq F261c Vb (ud m Hsb) from by rw [db]; exact uq.refl _ _), (show 0 ≤ pd f (P - n) n from (by omega)), (show ∀ s, s < dd * pd f (P - n) n + 0 → ((ud m Hsb).2.2.1 99 18).2 s = nI (pj mk f P (n + 1) s) from by rw [db]; exact hD)⟩
        obtain ⟨j, Hsc⟩ := zs
        obtain ⟨uc, htc, dc, hj, hJ⟩ := hzc
        have uc : um m Hsc := uc
        have htc : ur m C H Hsc := htc
        have zzc : uq F261c Vb (ud m Hsc) := dc
        have hj : j ≤ pd f (P - n) n := hj
        have hJ : ∀ s, s < dd * pd f (P - n) n + j → ((ud m Hsc).2.2.1 99 18).2 s = nI (pj mk f P (n + 1) s) := hJ
        obtain ⟨Vc, dc⟩ : ∃ V, ud m Hsc = V := ⟨_, rfl⟩
        rw [dc] at zzc hJ
        have qfc : uq F261 U Vc := qfb.tr zzc rfl
        show mu_W _ _ (81, [(8, .inl (nI j)), (0, .inr (.inr (some 99))), (1, .inl mk), (2, .inl (nI (wn mk f P n))), (3, .inl (nI (P - 1 - n))), (4, .inl (0 : Int32)), (5, .inl (nI (adn mk f P n dd))), (6, .inl (nI dd)), (7, .inl (nI (dd * (pd f (P - n) n))))], [], Hsc) _
        refine mw_go mu_g261 (k := 3) (f1 := (87, [(8, .inl (nI j)), (0, .inr (.inr (some 99))), (1, .inl mk), (2, .inl (nI (wn mk f P n))), (3, .inl (nI (P - 1 - n))), (4, .inl (0 : Int32)), (5, .inl (nI (adn mk f P n dd))), (6, .inl (nI dd)), (7, .inl (nI (dd * (pd f (P - n) n))))], [.inr (.inr (mu_r Hsc 99 6)), .inl (nI j)], Hsc)) (C := [mu_is Hsc (some 99) 13]) rfl (show mu_is Hsc (some 99) 13 from (uc.1.1.is rfl)) ?_
        rw [(uc.1.1.r (p := 99) (j := 6) (q := 121) rfl)]
        refine mw_go mu_g261 (k := 2) (f1 := (89, [(8, .inl (nI j)), (0, .inr (.inr (some 99))), (1, .inl mk), (2, .inl (nI (wn mk f P n))), (3, .inl (nI (P - 1 - n))), (4, .inl (0 : Int32)), (5, .inl (nI (adn mk f P n dd))), (6, .inl (nI dd)), (7, .inl (nI (dd * (pd f (P - n) n))))], [.inl (mu_i Hsc 121 (nI (P - 1 - n)).toNatClampNeg), .inl (nI j)], Hsc)) (C := [mu_isr Hsc (some 121) 100, vp_in (nI (P - 1 - n)) (mu_n Hsc 121)]) rfl (show (mu_isr Hsc (some 121) 100) ∧ (vp_in (nI (P - 1 - n)) (mu_n Hsc 121)) from ⟨((uc.iA dc rfl rfl ((ud_q (m := m) (P := 99) (j := 6) dc rfl).symm.trans (uc.1.1.r (p := 99) (j := 6) (q := 121) rfl)))).r, (by rw [show mu_n Hsc 121 = 14 from (uc.1.1.a (p := 121) (x := (100, 14)) rfl).2]; exact vp_in_nI (n := P - 1 - n) (by omega) (by decide))⟩) ?_
        rw [(show (mu_i Hsc 121 (nI (P - 1 - n)).toNatClampNeg) = (nI (pd f (P - n) n)) from ((congrArg (mu_i Hsc 121) (show (nI (P - 1 - n)).toNatClampNeg = P - 1 - n from nI_clamp (by omega))).trans (uc.gA dc rfl rfl ((ud_q (m := m) (P := 99) (j := 6) dc rfl).symm.trans (uc.1.1.r (p := 99) (j := 6) (q := 121) rfl)))).trans ((congrArg (fun z => z.2 (P - 1 - n)) (show Vc.2.2.1 99 6 = (U.2.2.1 99 6) from ((zzc.a 99 6 rfl).trans ((zzb.a 99 6 rfl).trans (zza.a 99 6 rfl))))).trans ((hk5 (P - 1 - n) (by omega)).2.2.1.trans (congrArg nI (by rw [show P - 1 - n + 1 = P - n by omega, show P - 1 - (P - 1 - n) = n by omega])))))]
        refine mw_if (P := (nI j) < (nI (pd f (P - n) n))) (a := 92) (b := 118) (fun _ => rfl) trivial (fun h6 => ?_) (fun h6 => ?_)
        · -- 92: (nI j) < (nI (pd f (P - n) n))
          have nh6 : j < (pd f (P - n) n) := (nI_ltI (by omega) (by omega)).mp (show nI j < nI (pd f (P - n) n) from h6)
          refine mw_go mu_g261 (k := 2) (f1 := (96, [(8, .inl (nI j)), (0, .inr (.inr (some 99))), (1, .inl mk), (2, .inl (nI (wn mk f P n))), (3, .inl (nI (P - 1 - n))), (4, .inl (0 : Int32)), (5, .inl (nI (adn mk f P n dd))), (6, .inl (nI dd)), (7, .inl (nI (dd * (pd f (P - n) n))))], [.inr (.inr (mu_r Hsc 99 18))], Hsc)) (C := [mu_is Hsc (some 99) 13]) rfl (show mu_is Hsc (some 99) 13 from (uc.1.1.is rfl)) ?_
          rw [(show mu_r Hsc 99 18 = (U.2.2.2.1 99 18) from (ud_q (U := Vc) (m := m) (P := 99) (j := 18) dc rfl).trans ((zzc.r 99 18 rfl).trans ((zzb.r 99 18 rfl).trans (zza.r 99 18 rfl))))]
          refine mw_go mu_g261 (k := 3) (f1 := (101, [(8, .inl (nI j)), (0, .inr (.inr (some 99))), (1, .inl mk), (2, .inl (nI (wn mk f P n))), (3, .inl (nI (P - 1 - n))), (4, .inl (0 : Int32)), (5, .inl (nI (adn mk f P n dd))), (6, .inl (nI dd)), (7, .inl (nI (dd * (pd f (P - n) n))))], [.inl ((nI (dd * (pd f (P - n) n))) + (nI j)), .inr (.inr (U.2.2.2.1 99 18))], Hsc)) (C := []) rfl trivial ?_
          rw [(show ((nI (dd * (pd f (P - n) n))) + (nI j)) = (nI ((dd * (pd f (P - n) n)) + j)) from (nI_add (dd * (pd f (P - n) n)) j))]
          refine mw_go mu_g261 (k := 2) (f1 := (105, [(8, .inl (nI j)), (0, .inr (.inr (some 99))), (1, .inl mk), (2, .inl (nI (wn mk f P n))), (3, .inl (nI (P - 1 - n))), (4, .inl (0 : Int32)), (5, .inl (nI (adn mk f P n dd))), (6, .inl (nI dd)), (7, .inl (nI (dd * (pd f (P - n) n))))], [.inr (.inr (mu_r Hsc 99 18)), .inl (nI ((dd * (pd f (P - n) n)) + j)), .inr (.inr (U.2.2.2.1 99 18))], Hsc)) (C := [mu_is Hsc (some 99) 13]) rfl (show mu_is Hsc (some 99) 13 from (uc.1.1.is rfl)) ?_
          rw [(show mu_r Hsc 99 18 = (U.2.2.2.1 99 18) from (ud_q (U := Vc) (m := m) (P := 99) (j := 18) dc rfl).trans ((zzc.r 99 18 rfl).trans ((zzb.r 99 18 rfl).trans (zza.r 99 18 rfl))))]
          refine mw_go mu_g261 (k := 2) (f1 := (108, [(8, .inl (nI j)), (0, .inr (.inr (some 99))), (1, .inl mk), (2, .inl (nI (wn mk f P n))), (3, .inl (nI (P - 1 - n))), (4, .inl (0 : Int32)), (5, .inl (nI (adn mk f P n dd))), (6, .inl (nI dd)), (7, .inl (nI (dd * (pd f (P - n) n))))], [.inl (mu_i Hsc (mu_p (U.2.2.2.1 99 18)) (nI j).toNatClampNeg), .inl (nI ((dd * (pd f (P - n) n)) + j)), .inr (.inr (U.2.2.2.1 99 18))], Hsc)) (C := [mu_isr Hsc (U.2.2.2.1 99 18) 100, vp_in (nI j) (mu_n Hsc (mu_p (U.2.2.2.1 99 18)))]) rfl (show (mu_isr Hsc (U.2.2.2.1 99 18) 100) ∧ (vp_in (nI j) (mu_n Hsc (mu_p (U.2.2.2.1 99 18)))) from ⟨((uc.iA dc rfl rfl (show Vc.2.2.2.1 99 18 = (U.2.2.2.1 99 18) from ((zzc.r 99 18 rfl).trans ((zzb.r 99 18 rfl).trans (zza.r 99 18 rfl)))))).r, (uc.vA (i := j) dc rfl rfl (show Vc.2.2.2.1 99 18 = (U.2.2.2.1 99 18) from ((zzc.r 99 18 rfl).trans ((zzb.r 99 18 rfl).trans (zza.r 99 18 rfl)))) (show (Vc.2.2.1 99 18).1 = (U.2.2.1 99 18).1 from ((zzc.n 99 18 rfl).trans ((zzb.n 99 18 rfl).trans (zza.n 99 18 rfl)))) (by omega) (by omega))⟩) ?_
          rw [(show (mu_i Hsc (mu_p (U.2.2.2.1 99 18)) (nI j).toNatClampNeg) = (nI (pj mk f P (n + 1) j)) from ((congrArg (mu_i Hsc (mu_p (U.2.2.2.1 99 18))) (show (nI j).toNatClampNeg = j from nI_clamp (by omega))).trans (uc.gA dc rfl rfl (show Vc.2.2.2.1 99 18 = (U.2.2.2.1 99 18) from ((zzc.r 99 18 rfl).trans ((zzb.r 99 18 rfl).trans (zza.r 99 18 rfl)))))).trans ((congrArg (fun z => z.2 j) (show Vc.2.2.1 99 18 = (Vc.2.2.1 99 18) from rfl)).trans (hJ j (by omega))))]
          refine mw_go mu_g261 (k := 2) (f1 := (111, [(8, .inl (nI j)), (0, .inr (.inr (some 99))), (1, .inl mk), (2, .inl (nI (wn mk f P n))), (3, .inl (nI (P - 1 - n))), (4, .inl (0 : Int32)), (5, .inl (nI (adn mk f P n dd))), (6, .inl (nI dd)), (7, .inl (nI (dd * (pd f (P - n) n))))], [.inl ((nI (pj mk f P (n + 1) j)) + (nI (adn mk f P n dd))), .inl (nI ((dd * (pd f (P - n) n)) + j)), .inr (.inr (U.2.2.2.1 99 18))], Hsc)) (C := []) rfl trivial ?_
          rw [(show ((nI (pj mk f P (n + 1) j)) + (nI (adn mk f P n dd))) = (nI ((pj mk f P (n + 1) j) + (adn mk f P n dd))) from (nI_add (pj mk f P (n + 1) j) (adn mk f P n dd)))]
          refine mw_go mu_g261 (k := 1) (f1 := (112, [(8, .inl (nI j)), (0, .inr (.inr (some 99))), (1, .inl mk), (2, .inl (nI (wn mk f P n))), (3, .inl (nI (P - 1 - n))), (4, .inl (0 : Int32)), (5, .inl (nI (adn mk f P n dd))), (6, .inl (nI dd)), (7, .inl (nI (dd * (pd f (P - n) n))))], [], (mu_si Hsc (mu_p (U.2.2.2.1 99 18)) (nI ((dd * (pd f (P - n) n)) + j)).toNatClampNeg (nI ((pj mk f P (n + 1) j) + (adn mk f P n dd)))))) (C := [mu_is Hsc (U.2.2.2.1 99 18) 100, vp_in (nI ((dd * (pd f (P - n) n)) + j)) (mu_n Hsc (mu_p (U.2.2.2.1 99 18)))]) rfl (show (mu_is Hsc (U.2.2.2.1 99 18) 100) ∧ (vp_in (nI ((dd * (pd f (P - n) n)) + j)) (mu_n Hsc (mu_p (U.2.2.2.1 99 18)))) from ⟨(uc.iA dc rfl rfl (show Vc.2.2.2.1 99 18 = (U.2.2.2.1 99 18) from ((zzc.r 99 18 rfl).trans ((zzb.r 99 18 rfl).trans (zza.r 99 18 rfl))))), (uc.vA (i := (dd * (pd f (P - n) n)) + j) dc rfl rfl (show Vc.2.2.2.1 99 18 = (U.2.2.2.1 99 18) from ((zzc.r 99 18 rfl).trans ((zzb.r 99 18 rfl).trans (zza.r 99 18 rfl)))) (show (Vc.2.2.1 99 18).1 = (U.2.2.1 99 18).1 from ((zzc.n 99 18 rfl).trans ((zzb.n 99 18 rfl).trans (zza.n 99 18 rfl)))) (by omega) (by omega))⟩) ?_
          rw [(show (nI ((dd * (pd f (P - n) n)) + j)).toNatClampNeg = (dd * (pd f (P - n) n)) + j from nI_clamp (by omega))]
          obtain ⟨u7, r7, d7⟩ : um m (mu_si Hsc (mu_p (U.2.2.2.1 99 18)) ((dd * (pd f (P - n) n)) + j) (nI ((pj mk f P (n + 1) j) + (adn mk f P n dd)))) ∧ ur m C Hsc (mu_si Hsc (mu_p (U.2.2.2.1 99 18)) ((dd * (pd f (P - n) n)) + j) (nI ((pj mk f P (n + 1) j) + (adn mk f P n dd)))) ∧ ud m (mu_si Hsc (mu_p (U.2.2.2.1 99 18)) ((dd * (pd f (P - n) n)) + j) (nI ((pj mk f P (n + 1) j) + (adn mk f P n dd)))) = (upA Vc 99 18 ((dd * (pd f (P - n) n)) + j) (nI ((pj mk f P (n + 1) j) + (adn mk f P n dd)))) := uc.sA (C := C) dc rfl rfl (show Vc.2.2.2.1 99 18 = (U.2.2.2.1 99 18) from ((zzc.r 99 18 rfl).trans ((zzb.r 99 18 rfl).trans (zza.r 99 18 rfl))))
          generalize (mu_si Hsc (mu_p (U.2.2.2.1 99 18)) ((dd * (pd f (P - n) n)) + j) (nI ((pj mk f P (n + 1) j) + (adn mk f P n dd)))) = Q7 at u7 r7 d7 ⊢
          have qf7 : uq F261 U (upA Vc 99 18 ((dd * (pd f (P - n) n)) + j) (nI ((pj mk f P (n + 1) j) + (adn mk f P n dd)))) := qfc.A rfl
          have ht7 : ur m C H Q7 := htc.trans r7
          refine mw_go mu_g261 (k := 1) (f1 := (115, [(8, .inl ((nI j) + 1)), (0, .inr (.inr (some 99))), (1, .inl mk), (2, .inl (nI (wn mk f P n))), (3, .inl (nI (P - 1 - n))), (4, .inl (0 : Int32)), (5, .inl (nI (adn mk f P n dd))), (6, .inl (nI dd)), (7, .inl (nI (dd * (pd f (P - n) n))))], [], Q7)) (C := []) rfl trivial ?_
          rw [(show ((nI j) + 1) = (nI (j + 1)) from (nI_add j 1))]
          refine mw_go mu_g261 (k := 1) (f1 := (81, [(8, .inl (nI (j + 1))), (0, .inr (.inr (some 99))), (1, .inl mk), (2, .inl (nI (wn mk f P n))), (3, .inl (nI (P - 1 - n))), (4, .inl (0 : Int32)), (5, .inl (nI (adn mk f P n dd))), (6, .inl (nI dd)), (7, .inl (nI (dd * (pd f (P - n) n))))], [], Q7)) (C := []) rfl trivial ?_
          exact mw_sub (by simp) (ihc (j + 1, Q7) ⟨u7, ht7, (show uq F261c Vb (ud m Q7) from by rw [d7]; exact (zzc.A rfl)), (show (j + 1) ≤ pd f (P - n) n from (by omega)), (show ∀ s, s < dd * pd f (P - n) n + (j + 1) → ((ud m Q7).2.2.1 99 18).2 s = nI (pj mk f P (n + 1) s) from by rw [d7]; exact (fun s hs => by by_cases es : s = dd * pd f (P - n) n + j; exact (if_pos es).trans (congrArg nI (by rw [es]; exact (pj_step (by omega)).symm)); exact (if_neg es).trans (hJ s (by omega))))⟩ (by show pd f (P - n) n - (j + 1) < pd f (P - n) n - j; omega))
        · -- 118: not (nI j) < (nI (pd f (P - n) n))
          have nh6 : ¬ j < (pd f (P - n) n) := fun z => h6 (show nI j < nI (pd f (P - n) n) from (nI_ltI (by omega) (by omega)).mpr z)
          refine mw_go mu_g261 (k := 1) (f1 := (121, [(6, .inl ((nI dd) + 1)), (8, .inl (nI j)), (0, .inr (.inr (some 99))), (1, .inl mk), (2, .inl (nI (wn mk f P n))), (3, .inl (nI (P - 1 - n))), (4, .inl (0 : Int32)), (5, .inl (nI (adn mk f P n dd))), (7, .inl (nI (dd * (pd f (P - n) n))))], [], Hsc)) (C := []) rfl trivial ?_
          rw [(show ((nI dd) + 1) = (nI (dd + 1)) from (nI_add dd 1))]
          refine mw_go mu_g261 (k := 1) (f1 := (41, [(6, .inl (nI (dd + 1))), (8, .inl (nI j)), (0, .inr (.inr (some 99))), (1, .inl mk), (2, .inl (nI (wn mk f P n))), (3, .inl (nI (P - 1 - n))), (4, .inl (0 : Int32)), (5, .inl (nI (adn mk f P n dd))), (7, .inl (nI (dd * (pd f (P - n) n))))], [], Hsc)) (C := []) rfl trivial ?_
          show mu_W _ _ (41, [(6, .inl (nI (dd + 1))), (8, .inl (nI j)), (0, .inr (.inr (some 99))), (1, .inl mk), (2, .inl (nI (wn mk f P n))), (3, .inl (nI (P - 1 - n))), (4, .inl (0 : Int32)), (5, .inl (nI (adn mk f P n (dd + 1 - 1)))), (7, .inl (nI (dd * (pd f (P - n) n))))], [], Hsc) _
          exact mw_sub (by simp) (ihb (dd + 1, Hsc) ⟨uc, htc, (show uq F261b Va (ud m Hsc) from by rw [dc]; exact (zzb.tr zzc rfl)), (show 1 ≤ (dd + 1) from (by omega)), (show (dd + 1) ≤ f (P - 1 - n) from (by omega)), (show ∀ s, s < (dd + 1) * pd f (P - n) n → ((ud m Hsc).2.2.1 99 18).2 s = nI (pj mk f P (n + 1) s) from by rw [dc]; exact (fun s hs => hJ s (by rw [Nat.succ_mul] at hs; omega)))⟩ (by show f (P - 1 - n) - (dd + 1) < f (P - 1 - n) - dd; omega))
      · -- 124: not (nI dd) < (nI (f (P - 1 - n)))
        have nh4 : ¬ dd < (f (P - 1 - n)) := fun z => h4 (show nI dd < nI (f (P - 1 - n)) from (nI_ltI (by omega) (by omega)).mpr z)
        refine mw_go mu_g261 (k := 2) (f1 := (127, [(6, .inl (nI dd)), (5, .inl (nI (adn mk f P n (dd - 1)))), (0, .inr (.inr (some 99))), (1, .inl mk), (2, .inl (nI (wn mk f P n))), (3, .inl (nI (P - 1 - n))), (4, .inl (0 : Int32))], [.inl (0 : Int32), .inl (nI (wn mk f P n))], Hsb)) (C := []) rfl trivial ?_
        refine mw_if (P := (0 : Int32) = 0) (a := 139) (b := 130) (fun _ => rfl) trivial (fun h8 => ?_) (fun h8 => absurd (by decide) h8)
        refine mw_go mu_g261 (k := 2) (f1 := (141, [(6, .inl (nI dd)), (5, .inl (nI (adn mk f P n (dd - 1)))), (0, .inr (.inr (some 99))), (1, .inl mk), (2, .inl (nI (wn mk f P n))), (3, .inl (nI (P - 1 - n))), (4, .inl (0 : Int32))], [.inl ((nI (wn mk f P n)) * (1 : Int32))], Hsb)) (C := []) rfl trivial ?_
        rw [(show ((nI (wn mk f P n)) * (1 : Int32)) = (nI ((wn mk f P n) * 1)) from (nI_mul (a := wn mk f P n) (b := 1)))]
        refine mw_go mu_g261 (k := 3) (f1 := (16, [(3, .inl ((nI (P - 1 - n)) + (-1))), (2, .inl (nI ((wn mk f P n) * 1))), (6, .inl (nI dd)), (5, .inl (nI (adn mk f P n (dd - 1)))), (0, .inr (.inr (some 99))), (1, .inl mk), (4, .inl (0 : Int32))], [], Hsb)) (C := []) rfl trivial ?_
        rw [show (nI ((wn mk f P n) * 1)) = nI (wn mk f P (n + 1)) from congrArg nI (by show _ = wn mk f P n * (if mb mk (P - 1 - n) = 0 then 1 else f (P - 1 - n)); rw [if_pos (show mb mk (P - 1 - n) = 0 from h3)]), show nI (P - 1 - n) + (-1) = nI (P - (n + 1)) - (1 : Int32) from (Int32.sub_eq_add_neg _ _).symm.trans (congrArg (fun z => nI z - 1) (by omega))]
        exact mw_sub (by simp) (iha (n + 1, Hsb) ⟨ub, htb, (show uq F261a (upA U 99 18 0 (0 : Int32)) (ud m Hsb) from by rw [db]; exact (zza.tr zzb rfl)), (show (n + 1) ≤ P from (by omega)), (show ∀ s, s < pd f (P - (n + 1)) (n + 1) → ((ud m Hsb).2.2.1 99 18).2 s = nI (pj mk f P (n + 1) s) from by rw [db]; exact (fun s hs => hD s (by rw [show dd = f (P - 1 - n) by omega, ← e1]; exact hs)))⟩ (by show P - (n + 1) < P - n; omega))
    · -- 28: not (((mk.toUInt32 >>> ((nI (P - 1 - n)).toUInt32 &&& Int32.toUInt32 31)).toInt32) &&& (1 : Int32)) = 0
      refine mw_go mu_g261 (k := 7) (f1 := (41, [(6, .inl (1 : Int32)), (5, .inl (0 : Int32)), (4, .inl (1 : Int32)), (3, .inl (nI (P - 1 - n))), (2, .inl (nI (wn mk f P n))), (0, .inr (.inr (some 99))), (1, .inl mk)], [], Hsa)) (C := []) rfl trivial ?_
      show mu_W _ _ (41, [(6, .inl (nI 1)), (5, .inl (nI (adn mk f P n (1 - 1)))), (4, .inl (1 : Int32)), (3, .inl (nI (P - 1 - n))), (2, .inl (nI (wn mk f P n))), (0, .inr (.inr (some 99))), (1, .inl mk)], [], Hsa) _
      refine mw_sub (L' := [(6, .inl (nI 1)), (5, .inl (nI (adn mk f P n (1 - 1)))), (0, .inr (.inr (some 99))), (1, .inl mk), (2, .inl (nI (wn mk f P n))), (3, .inl (nI (P - 1 - n))), (4, .inl (1 : Int32))]) (by simp) ?_
      refine mw_down (α := Nat × mu_H) (fun zs => (41, [(6, .inl (nI zs.1)), (5, .inl (nI (adn mk f P n (zs.1 - 1)))), (0, .inr (.inr (some 99))), (1, .inl mk), (2, .inl (nI (wn mk f P n))), (3, .inl (nI (P - 1 - n))), (4, .inl (1 : Int32))], [], zs.2)) (fun zs => f (P - 1 - n) - zs.1) (fun zs => um m zs.2 ∧ ur m C H zs.2 ∧ (uq F261b Va (ud m zs.2)) ∧ (1 ≤ zs.1) ∧ (zs.1 ≤ f (P - 1 - n)) ∧ (∀ s, s < zs.1 * pd f (P - n) n → ((ud m zs.2).2.2.1 99 18).2 s = nI (pj mk f P (n + 1) s))) (fun zs hzb ihb => ?_) (1, Hsa) ⟨ua, hta, (show uq F261b Va (ud m Hsa) from by rw [da]; exact uq.refl _ _), (show 1 ≤ 1 from (by omega)), (show 1 ≤ f (P - 1 - n) from (by omega)), (show ∀ s, s < 1 * pd f (P - n) n → ((ud m Hsa).2.2.1 99 18).2 s = nI (pj mk f P (n + 1) s) from by rw [da]; exact (fun s hs => by rw [Nat.one_mul] at hs; rw [pj_low hs]; exact hC s hs))⟩
      obtain ⟨dd, Hsb⟩ := zs
      obtain ⟨ub, htb, db, h1d, hdf, hD⟩ := hzb
      have ub : um m Hsb := ub
      have htb : ur m C H Hsb := htb
      have zzb : uq F261b Va (ud m Hsb) := db
      have h1d : 1 ≤ dd := h1d
      have hdf : dd ≤ f (P - 1 - n) := hdf
      have hD : ∀ s, s < dd * pd f (P - n) n → ((ud m Hsb).2.2.1 99 18).2 s = nI (pj mk f P (n + 1) s) := hD
      obtain ⟨Vb, db⟩ : ∃ V, ud m Hsb = V := ⟨_, rfl⟩
      rw [db] at zzb hD
      have qfb : uq F261 U Vb := qfa.tr zzb rfl
      show mu_W _ _ (41, [(6, .inl (nI dd)), (5, .inl (nI (adn mk f P n (dd - 1)))), (0, .inr (.inr (some 99))), (1, .inl mk), (2, .inl (nI (wn mk f P n))), (3, .inl (nI (P - 1 - n))), (4, .inl (1 : Int32))], [], Hsb) _
      refine mw_go mu_g261 (k := 3) (f1 := (47, [(6, .inl (nI dd)), (5, .inl (nI (adn mk f P n (dd - 1)))), (0, .inr (.inr (some 99))), (1, .inl mk), (2, .inl (nI (wn mk f P n))), (3, .inl (nI (P - 1 - n))), (4, .inl (1 : Int32))], [.inr (.inr (mu_r Hsb 99 5)), .inl (nI dd)], Hsb)) (C := [mu_is Hsb (some 99) 13]) rfl (show mu_is Hsb (some 99) 13 from (ub.1.1.is rfl)) ?_
      rw [(ub.1.1.r (p := 99) (j := 5) (q := 120) rfl)]
      refine mw_go mu_g261 (k := 2) (f1 := (49, [(6, .inl (nI dd)), (5, .inl (nI (adn mk f P n (dd - 1)))), (0, .inr (.inr (some 99))), (1, .inl mk), (2, .inl (nI (wn mk f P n))), (3, .inl (nI (P - 1 - n))), (4, .inl (1 : Int32))], [.inl (mu_i Hsb 120 (nI (P - 1 - n)).toNatClampNeg), .inl (nI dd)], Hsb)) (C := [mu_isr Hsb (some 120) 100, vp_in (nI (P - 1 - n)) (mu_n Hsb 120)]) rfl (show (mu_isr Hsb (some 120) 100) ∧ (vp_in (nI (P - 1 - n)) (mu_n Hsb 120)) from ⟨((ub.iA db rfl rfl ((ud_q (m := m) (P := 99) (j := 5) db rfl).symm.trans (ub.1.1.r (p := 99) (j := 5) (q := 120) rfl)))).r, (by rw [show mu_n Hsb 120 = 14 from (ub.1.1.a (p := 120) (x := (100, 14)) rfl).2]; exact vp_in_nI (n := P - 1 - n) (by omega) (by decide))⟩) ?_
      rw [(show (mu_i Hsb 120 (nI (P - 1 - n)).toNatClampNeg) = (nI (f (P - 1 - n))) from ((congrArg (mu_i Hsb 120) (show (nI (P - 1 - n)).toNatClampNeg = P - 1 - n from nI_clamp (by omega))).trans (ub.gA db rfl rfl ((ud_q (m := m) (P := 99) (j := 5) db rfl).symm.trans (ub.1.1.r (p := 99) (j := 5) (q := 120) rfl)))).trans ((congrArg (fun z => z.2 (P - 1 - n)) (show Vb.2.2.1 99 5 = (U.2.2.1 99 5) from ((zzb.a 99 5 rfl).trans (zza.a 99 5 rfl)))).trans (hk5 (P - 1 - n) (by omega)).1))]
      refine mw_if (P := (nI dd) < (nI (f (P - 1 - n)))) (a := 52) (b := 124) (fun _ => rfl) trivial (fun h9 => ?_) (fun h9 => ?_)
      · -- 52: (nI dd) < (nI (f (P - 1 - n)))
        have nh9 : dd < (f (P - 1 - n)) := (nI_ltI (by omega) (by omega)).mp (show nI dd < nI (f (P - 1 - n)) from h9)
        have hb1 := Nat.mul_le_mul_right (pd f (P - n) n) (show dd + 1 ≤ f (P - 1 - n) by omega)
        rw [Nat.succ_mul] at hb1
        have hb2 := Nat.le_mul_of_pos_left (pd f (P - n) n) (show 0 < dd by omega)
        have hb3 : adn mk f P n (dd - 1) + wn mk f P n ≤ 16384 * 16384 + 16384 := by
          rw [adn_eq]
          by_cases ee : mb mk (P - 1 - n) = 0
          · rw [if_pos ee]; omega
          · rw [if_neg ee]; have := Nat.mul_le_mul (show dd - 1 ≤ 16384 by omega) (show wn mk f P n ≤ 16384 by omega); omega
        refine mw_go mu_g261 (k := 2) (f1 := (56, [(6, .inl (nI dd)), (5, .inl (nI (adn mk f P n (dd - 1)))), (0, .inr (.inr (some 99))), (1, .inl mk), (2, .inl (nI (wn mk f P n))), (3, .inl (nI (P - 1 - n))), (4, .inl (1 : Int32))], [.inl (1 : Int32), .inl (nI (adn mk f P n (dd - 1)))], Hsb)) (C := []) rfl trivial ?_
        refine mw_if (P := (1 : Int32) = 0) (a := 63) (b := 59) (fun _ => rfl) trivial (fun h10 => absurd h10 (by decide)) (fun h10 => ?_)
        refine mw_go mu_g261 (k := 3) (f1 := (65, [(6, .inl (nI dd)), (5, .inl (nI (adn mk f P n (dd - 1)))), (0, .inr (.inr (some 99))), (1, .inl mk), (2, .inl (nI (wn mk f P n))), (3, .inl (nI (P - 1 - n))), (4, .inl (1 : Int32))], [.inl ((nI (adn mk f P n (dd - 1))) + (nI (wn mk f P n)))], Hsb)) (C := []) rfl trivial ?_
        rw [(show ((nI (adn mk f P n (dd - 1))) + (nI (wn mk f P n))) = (nI ((adn mk f P n (dd - 1)) + (wn mk f P n))) from (nI_add (adn mk f P n (dd - 1)) (wn mk f P n)))]
        refine mw_go mu_g261 (k := 1) (f1 := (67, [(5, .inl (nI ((adn mk f P n (dd - 1)) + (wn mk f P n)))), (6, .inl (nI dd)), (0, .inr (.inr (some 99))), (1, .inl mk), (2, .inl (nI (wn mk f P n))), (3, .inl (nI (P - 1 - n))), (4, .inl (1 : Int32))], [], Hsb)) (C := []) rfl trivial ?_
        rw [show (nI ((adn mk f P n (dd - 1)) + (wn mk f P n))) = nI (adn mk f P n dd) from congrArg nI (adn_in (show ¬ mb mk (P - 1 - n) = 0 from h3) (by omega))]
        refine mw_go mu_g261 (k := 3) (f1 := (73, [(5, .inl (nI (adn mk f P n dd))), (6, .inl (nI dd)), (0, .inr (.inr (some 99))), (1, .inl mk), (2, .inl (nI (wn mk f P n))), (3, .inl (nI (P - 1 - n))), (4, .inl (1 : Int32))], [.inr (.inr (mu_r Hsb 99 6)), .inl (nI dd)], Hsb)) (C := [mu_is Hsb (some 99) 13]) rfl (show mu_is Hsb (some 99) 13 from (ub.1.1.is rfl)) ?_
        rw [(ub.1.1.r (p := 99) (j := 6) (q := 121) rfl)]
        refine mw_go mu_g261 (k := 2) (f1 := (75, [(5, .inl (nI (adn mk f P n dd))), (6, .inl (nI dd)), (0, .inr (.inr (some 99))), (1, .inl mk), (2, .inl (nI (wn mk f P n))), (3, .inl (nI (P - 1 - n))), (4, .inl (1 : Int32))], [.inl (mu_i Hsb 121 (nI (P - 1 - n)).toNatClampNeg), .inl (nI dd)], Hsb)) (C := [mu_isr Hsb (some 121) 100, vp_in (nI (P - 1 - n)) (mu_n Hsb 121)]) rfl (show (mu_isr Hsb (some 121) 100) ∧ (vp_in (nI (P - 1 - n)) (mu_n Hsb 121)) from ⟨((ub.iA db rfl rfl ((ud_q (m := m) (P := 99) (j := 6) db rfl).symm.trans (ub.1.1.r (p := 99) (j := 6) (q := 121) rfl)))).r, (by rw [show mu_n Hsb 121 = 14 from (ub.1.1.a (p := 121) (x := (100, 14)) rfl).2]; exact vp_in_nI (n := P - 1 - n) (by omega) (by decide))⟩) ?_
        rw [(show (mu_i Hsb 121 (nI (P - 1 - n)).toNatClampNeg) = (nI (pd f (P - n) n)) from ((congrArg (mu_i Hsb 121) (show (nI (P - 1 - n)).toNatClampNeg = P - 1 - n from nI_clamp (by omega))).trans (ub.gA db rfl rfl ((ud_q (m := m) (P := 99) (j := 6) db rfl).symm.trans (ub.1.1.r (p := 99) (j := 6) (q := 121) rfl)))).trans ((congrArg (fun z => z.2 (P - 1 - n)) (show Vb.2.2.1 99 6 = (U.2.2.1 99 6) from ((zzb.a 99 6 rfl).trans (zza.a 99 6 rfl)))).trans ((hk5 (P - 1 - n) (by omega)).2.2.1.trans (congrArg nI (by rw [show P - 1 - n + 1 = P - n by omega, show P - 1 - (P - 1 - n) = n by omega])))))]
        refine mw_go mu_g261 (k := 1) (f1 := (76, [(5, .inl (nI (adn mk f P n dd))), (6, .inl (nI dd)), (0, .inr (.inr (some 99))), (1, .inl mk), (2, .inl (nI (wn mk f P n))), (3, .inl (nI (P - 1 - n))), (4, .inl (1 : Int32))], [.inl ((nI dd) * (nI (pd f (P - n) n)))], Hsb)) (C := []) rfl trivial ?_
        rw [(show ((nI dd) * (nI (pd f (P - n) n))) = (nI (dd * (pd f (P - n) n))) from (nI_mul (a := dd) (b := pd f (P - n) n)))]
        refine mw_go mu_g261 (k := 3) (f1 := (81, [(8, .inl (0 : Int32)), (7, .inl (nI (dd * (pd f (P - n) n)))), (5, .inl (nI (adn mk f P n dd))), (6, .inl (nI dd)), (0, .inr (.inr (some 99))), (1, .inl mk), (2, .inl (nI (wn mk f P n))), (3, .inl (nI (P - 1 - n))), (4, .inl (1 : Int32))], [], Hsb)) (C := []) rfl trivial ?_
        show mu_W _ _ (81, [(8, .inl (nI 0)), (7, .inl (nI (dd * (pd f (P - n) n)))), (5, .inl (nI (adn mk f P n dd))), (6, .inl (nI dd)), (0, .inr (.inr (some 99))), (1, .inl mk), (2, .inl (nI (wn mk f P n))), (3, .inl (nI (P - 1 - n))), (4, .inl (1 : Int32))], [], Hsb) _
        refine mw_sub (L' := [(8, .inl (nI 0)), (0, .inr (.inr (some 99))), (1, .inl mk), (2, .inl (nI (wn mk f P n))), (3, .inl (nI (P - 1 - n))), (4, .inl (1 : Int32)), (5, .inl (nI (adn mk f P n dd))), (6, .inl (nI dd)), (7, .inl (nI (dd * (pd f (P - n) n))))]) (by simp) ?_
        refine mw_down (α := Nat × mu_H) (fun zs => (81, [(8, .inl (nI zs.1)), (0, .inr (.inr (some 99))), (1, .inl mk), (2, .inl (nI (wn mk f P n))), (3, .inl (nI (P - 1 - n))), (4, .inl (1 : Int32)), (5, .inl (nI (adn mk f P n dd))), (6, .inl (nI dd)), (7, .inl (nI (dd * (pd f (P - n) n))))], [], zs.2)) (fun zs => pd f (P - n) n - zs.1) (fun zs => um m zs.2 ∧ ur m C H zs.2 ∧ (uq F261c Vb (ud m zs.2)) ∧ (zs.1 ≤ pd f (P - n) n) ∧ (∀ s, s < dd * pd f (P - n) n + zs.1 → ((ud m zs.2).2.2.1 99 18).2 s = nI (pj mk f P (n + 1) s))) (fun zs hzc ihc => ?_) (0, Hsb) ⟨ub, htb, (show uq F261c Vb (ud m Hsb) from by rw [db]; exact uq.refl _ _), (show 0 ≤ pd f (P - n) n from (by omega)), (show ∀ s, s < dd * pd f (P - n) n + 0 → ((ud m Hsb).2.2.1 99 18).2 s = nI (pj mk f P (n + 1) s) from by rw [db]; exact hD)⟩
        obtain ⟨j, Hsc⟩ := zs
        obtain ⟨uc, htc, dc, hj, hJ⟩ := hzc
        have uc : um m Hsc := uc
        have htc : ur m C H Hsc := htc
        have zzc : uq F261c Vb (ud m Hsc) := dc
        have hj : j ≤ pd f (P - n) n := hj
        have hJ : ∀ s, s < dd * pd f (P - n) n + j → ((ud m Hsc).2.2.1 99 18).2 s = nI (pj mk f P (n + 1) s) := hJ
        obtain ⟨Vc, dc⟩ : ∃ V, ud m Hsc = V := ⟨_, rfl⟩
        rw [dc] at zzc hJ
        have qfc : uq F261 U Vc := qfb.tr zzc rfl
        show mu_W _ _ (81, [(8, .inl (nI j)), (0, .inr (.inr (some 99))), (1, .inl mk), (2, .inl (nI (wn mk f P n))), (3, .inl (nI (P - 1 - n))), (4, .inl (1 : Int32)), (5, .inl (nI (adn mk f P n dd))), (6, .inl (nI dd)), (7, .inl (nI (dd * (pd f (P - n) n))))], [], Hsc) _
        refine mw_go mu_g261 (k := 3) (f1 := (87, [(8, .inl (nI j)), (0, .inr (.inr (some 99))), (1, .inl mk), (2, .inl (nI (wn mk f P n))), (3, .inl (nI (P - 1 - n))), (4, .inl (1 : Int32)), (5, .inl (nI (adn mk f P n dd))), (6, .inl (nI dd)), (7, .inl (nI (dd * (pd f (P - n) n))))], [.inr (.inr (mu_r Hsc 99 6)), .inl (nI j)], Hsc)) (C := [mu_is Hsc (some 99) 13]) rfl (show mu_is Hsc (some 99) 13 from (uc.1.1.is rfl)) ?_
        rw [(uc.1.1.r (p := 99) (j := 6) (q := 121) rfl)]
        refine mw_go mu_g261 (k := 2) (f1 := (89, [(8, .inl (nI j)), (0, .inr (.inr (some 99))), (1, .inl mk), (2, .inl (nI (wn mk f P n))), (3, .inl (nI (P - 1 - n))), (4, .inl (1 : Int32)), (5, .inl (nI (adn mk f P n dd))), (6, .inl (nI dd)), (7, .inl (nI (dd * (pd f (P - n) n))))], [.inl (mu_i Hsc 121 (nI (P - 1 - n)).toNatClampNeg), .inl (nI j)], Hsc)) (C := [mu_isr Hsc (some 121) 100, vp_in (nI (P - 1 - n)) (mu_n Hsc 121)]) rfl (show (mu_isr Hsc (some 121) 100) ∧ (vp_in (nI (P - 1 - n)) (mu_n Hsc 121)) from ⟨((uc.iA dc rfl rfl ((ud_q (m := m) (P := 99) (j := 6) dc rfl).symm.trans (uc.1.1.r (p := 99) (j := 6) (q := 121) rfl)))).r, (by rw [show mu_n Hsc 121 = 14 from (uc.1.1.a (p := 121) (x := (100, 14)) rfl).2]; exact vp_in_nI (n := P - 1 - n) (by omega) (by decide))⟩) ?_
        rw [(show (mu_i Hsc 121 (nI (P - 1 - n)).toNatClampNeg) = (nI (pd f (P - n) n)) from ((congrArg (mu_i Hsc 121) (show (nI (P - 1 - n)).toNatClampNeg = P - 1 - n from nI_clamp (by omega))).trans (uc.gA dc rfl rfl ((ud_q (m := m) (P := 99) (j := 6) dc rfl).symm.trans (uc.1.1.r (p := 99) (j := 6) (q := 121) rfl)))).trans ((congrArg (fun z => z.2 (P - 1 - n)) (show Vc.2.2.1 99 6 = (U.2.2.1 99 6) from ((zzc.a 99 6 rfl).trans ((zzb.a 99 6 rfl).trans (zza.a 99 6 rfl))))).trans ((hk5 (P - 1 - n) (by omega)).2.2.1.trans (congrArg nI (by rw [show P - 1 - n + 1 = P - n by omega, show P - 1 - (P - 1 - n) = n by omega])))))]
        refine mw_if (P := (nI j) < (nI (pd f (P - n) n))) (a := 92) (b := 118) (fun _ => rfl) trivial (fun h11 => ?_) (fun h11 => ?_)
        · -- 92: (nI j) < (nI (pd f (P - n) n))
          have nh11 : j < (pd f (P - n) n) := (nI_ltI (by omega) (by omega)).mp (show nI j < nI (pd f (P - n) n) from h11)
          refine mw_go mu_g261 (k := 2) (f1 := (96, [(8, .inl (nI j)), (0, .inr (.inr (some 99))), (1, .inl mk), (2, .inl (nI (wn mk f P n))), (3, .inl (nI (P - 1 - n))), (4, .inl (1 : Int32)), (5, .inl (nI (adn mk f P n dd))), (6, .inl (nI dd)), (7, .inl (nI (dd * (pd f (P - n) n))))], [.inr (.inr (mu_r Hsc 99 18))], Hsc)) (C := [mu_is Hsc (some 99) 13]) rfl (show mu_is Hsc (some 99) 13 from (uc.1.1.is rfl)) ?_
          rw [(show mu_r Hsc 99 18 = (U.2.2.2.1 99 18) from (ud_q (U := Vc) (m := m) (P := 99) (j := 18) dc rfl).trans ((zzc.r 99 18 rfl).trans ((zzb.r 99 18 rfl).trans (zza.r 99 18 rfl))))]
          refine mw_go mu_g261 (k := 3) (f1 := (101, [(8, .inl (nI j)), (0, .inr (.inr (some 99))), (1, .inl mk), (2, .inl (nI (wn mk f P n))), (3, .inl (nI (P - 1 - n))), (4, .inl (1 : Int32)), (5, .inl (nI (adn mk f P n dd))), (6, .inl (nI dd)), (7, .inl (nI (dd * (pd f (P - n) n))))], [.inl ((nI (dd * (pd f (P - n) n))) + (nI j)), .inr (.inr (U.2.2.2.1 99 18))], Hsc)) (C := []) rfl trivial ?_
          rw [(show ((nI (dd * (pd f (P - n) n))) + (nI j)) = (nI ((dd * (pd f (P - n) n)) + j)) from (nI_add (dd * (pd f (P - n) n)) j))]
          refine mw_go mu_g261 (k := 2) (f1 := (105, [(8, .inl (nI j)), (0, .inr (.inr (some 99))), (1, .inl mk), (2, .inl (nI (wn mk f P n))), (3, .inl (nI (P - 1 - n))), (4, .inl (1 : Int32)), (5, .inl (nI (adn mk f P n dd))), (6, .inl (nI dd)), (7, .inl (nI (dd * (pd f (P - n) n))))], [.inr (.inr (mu_r Hsc 99 18)), .inl (nI ((dd * (pd f (P - n) n)) + j)), .inr (.inr (U.2.2.2.1 99 18))], Hsc)) (C := [mu_is Hsc (some 99) 13]) rfl (show mu_is Hsc (some 99) 13 from (uc.1.1.is rfl)) ?_
          rw [(show mu_r Hsc 99 18 = (U.2.2.2.1 99 18) from (ud_q (U := Vc) (m := m) (P := 99) (j := 18) dc rfl).trans ((zzc.r 99 18 rfl).trans ((zzb.r 99 18 rfl).trans (zza.r 99 18 rfl))))]
          refine mw_go mu_g261 (k := 2) (f1 := (108, [(8, .inl (nI j)), (0, .inr (.inr (some 99))), (1, .inl mk), (2, .inl (nI (wn mk f P n))), (3, .inl (nI (P - 1 - n))), (4, .inl (1 : Int32)), (5, .inl (nI (adn mk f P n dd))), (6, .inl (nI dd)), (7, .inl (nI (dd * (pd f (P - n) n))))], [.inl (mu_i Hsc (mu_p (U.2.2.2.1 99 18)) (nI j).toNatClampNeg), .inl (nI ((dd * (pd f (P - n) n)) + j)), .inr (.inr (U.2.2.2.1 99 18))], Hsc)) (C := [mu_isr Hsc (U.2.2.2.1 99 18) 100, vp_in (nI j) (mu_n Hsc (mu_p (U.2.2.2.1 99 18)))]) rfl (show (mu_isr Hsc (U.2.2.2.1 99 18) 100) ∧ (vp_in (nI j) (mu_n Hsc (mu_p (U.2.2.2.1 99 18)))) from ⟨((uc.iA dc rfl rfl (show Vc.2.2.2.1 99 18 = (U.2.2.2.1 99 18) from ((zzc.r 99 18 rfl).trans ((zzb.r 99 18 rfl).trans (zza.r 99 18 rfl)))))).r, (uc.vA (i := j) dc rfl rfl (show Vc.2.2.2.1 99 18 = (U.2.2.2.1 99 18) from ((zzc.r 99 18 rfl).trans ((zzb.r 99 18 rfl).trans (zza.r 99 18 rfl)))) (show (Vc.2.2.1 99 18).1 = (U.2.2.1 99 18).1 from ((zzc.n 99 18 rfl).trans ((zzb.n 99 18 rfl).trans (zza.n 99 18 rfl)))) (by omega) (by omega))⟩) ?_
          rw [(show (mu_i Hsc (mu_p (U.2.2.2.1 99 18)) (nI j).toNatClampNeg) = (nI (pj mk f P (n + 1) j)) from ((congrArg (mu_i Hsc (mu_p (U.2.2.2.1 99 18))) (show (nI j).toNatClampNeg = j from nI_clamp (by omega))).trans (uc.gA dc rfl rfl (show Vc.2.2.2.1 99 18 = (U.2.2.2.1 99 18) from ((zzc.r 99 18 rfl).trans ((zzb.r 99 18 rfl).trans (zza.r 99 18 rfl)))))).trans ((congrArg (fun z => z.2 j) (show Vc.2.2.1 99 18 = (Vc.2.2.1 99 18) from rfl)).trans (hJ j (by omega))))]
          refine mw_go mu_g261 (k := 2) (f1 := (111, [(8, .inl (nI j)), (0, .inr (.inr (some 99))), (1, .inl mk), (2, .inl (nI (wn mk f P n))), (3, .inl (nI (P - 1 - n))), (4, .inl (1 : Int32)), (5, .inl (nI (adn mk f P n dd))), (6, .inl (nI dd)), (7, .inl (nI (dd * (pd f (P - n) n))))], [.inl ((nI (pj mk f P (n + 1) j)) + (nI (adn mk f P n dd))), .inl (nI ((dd * (pd f (P - n) n)) + j)), .inr (.inr (U.2.2.2.1 99 18))], Hsc)) (C := []) rfl trivial ?_
          rw [(show ((nI (pj mk f P (n + 1) j)) + (nI (adn mk f P n dd))) = (nI ((pj mk f P (n + 1) j) + (adn mk f P n dd))) from (nI_add (pj mk f P (n + 1) j) (adn mk f P n dd)))]
          refine mw_go mu_g261 (k := 1) (f1 := (112, [(8, .inl (nI j)), (0, .inr (.inr (some 99))), (1, .inl mk), (2, .inl (nI (wn mk f P n))), (3, .inl (nI (P - 1 - n))), (4, .inl (1 : Int32)), (5, .inl (nI (adn mk f P n dd))), (6, .inl (nI dd)), (7, .inl (nI (dd * (pd f (P - n) n))))], [], (mu_si Hsc (mu_p (U.2.2.2.1 99 18)) (nI ((dd * (pd f (P - n) n)) + j)).toNatClampNeg (nI ((pj mk f P (n + 1) j) + (adn mk f P n dd)))))) (C := [mu_is Hsc (U.2.2.2.1 99 18) 100, vp_in (nI ((dd * (pd f (P - n) n)) + j)) (mu_n Hsc (mu_p (U.2.2.2.1 99 18)))]) rfl (show (mu_is Hsc (U.2.2.2.1 99 18) 100) ∧ (vp_in (nI ((dd * (pd f (P - n) n)) + j)) (mu_n Hsc (mu_p (U.2.2.2.1 99 18)))) from ⟨(uc.iA dc rfl rfl (show Vc.2.2.2.1 99 18 = (U.2.2.2.1 99 18) from ((zzc.r 99 18 rfl).trans ((zzb.r 99 18 rfl).trans (zza.r 99 18 rfl))))), (uc.vA (i := (dd * (pd f (P - n) n)) + j) dc rfl rfl (show Vc.2.2.2.1 99 18 = (U.2.2.2.1 99 18) from ((zzc.r 99 18 rfl).trans ((zzb.r 99 18 rfl).trans (zza.r 99 18 rfl)))) (show (Vc.2.2.1 99 18).1 = (U.2.2.1 99 18).1 from ((zzc.n 99 18 rfl).trans ((zzb.n 99 18 rfl).trans (zza.n 99 18 rfl)))) (by omega) (by omega))⟩) ?_
          rw [(show (nI ((dd * (pd f (P - n) n)) + j)).toNatClampNeg = (dd * (pd f (P - n) n)) + j from nI_clamp (by omega))]
          obtain ⟨u12, r12, d12⟩ : um m (mu_si Hsc (mu_p (U.2.2.2.1 99 18)) ((dd * (pd f (P - n) n)) + j) (nI ((pj mk f P (n + 1) j) + (adn mk f P n dd)))) ∧ ur m C Hsc (mu_si Hsc (mu_p (U.2.2.2.1 99 18)) ((dd * (pd f (P - n) n)) + j) (nI ((pj mk f P (n + 1) j) + (adn mk f P n dd)))) ∧ ud m (mu_si Hsc (mu_p (U.2.2.2.1 99 18)) ((dd * (pd f (P - n) n)) + j) (nI ((pj mk f P (n + 1) j) + (adn mk f P n dd)))) = (upA Vc 99 18 ((dd * (pd f (P - n) n)) + j) (nI ((pj mk f P (n + 1) j) + (adn mk f P n dd)))) := uc.sA (C := C) dc rfl rfl (show Vc.2.2.2.1 99 18 = (U.2.2.2.1 99 18) from ((zzc.r 99 18 rfl).trans ((zzb.r 99 18 rfl).trans (zza.r 99 18 rfl))))
          generalize (mu_si Hsc (mu_p (U.2.2.2.1 99 18)) ((dd * (pd f (P - n) n)) + j) (nI ((pj mk f P (n + 1) j) + (adn mk f P n dd)))) = Q12 at u12 r12 d12 ⊢
          have qf12 : uq F261 U (upA Vc 99 18 ((dd * (pd f (P - n) n)) + j) (nI ((pj mk f P (n + 1) j) + (adn mk f P n dd)))) := qfc.A rfl
          have ht12 : ur m C H Q12 := htc.trans r12
          refine mw_go mu_g261 (k := 1) (f1 := (115, [(8, .inl ((nI j) + 1)), (0, .inr (.inr (some 99))), (1, .inl mk), (2, .inl (nI (wn mk f P n))), (3, .inl (nI (P - 1 - n))), (4, .inl (1 : Int32)), (5, .inl (nI (adn mk f P n dd))), (6, .inl (nI dd)), (7, .inl (nI (dd * (pd f (P - n) n))))], [], Q12)) (C := []) rfl trivial ?_
          rw [(show ((nI j) + 1) = (nI (j + 1)) from (nI_add j 1))]
          refine mw_go mu_g261 (k := 1) (f1 := (81, [(8, .inl (nI (j + 1))), (0, .inr (.inr (some 99))), (1, .inl mk), (2, .inl (nI (wn mk f P n))), (3, .inl (nI (P - 1 - n))), (4, .inl (1 : Int32)), (5, .inl (nI (adn mk f P n dd))), (6, .inl (nI dd)), (7, .inl (nI (dd * (pd f (P - n) n))))], [], Q12)) (C := []) rfl trivial ?_
          exact mw_sub (by simp) (ihc (j + 1, Q12) ⟨u12, ht12, (show uq F261c Vb (ud m Q12) from by rw [d12]; exact (zzc.A rfl)), (show (j + 1) ≤ pd f (P - n) n from (by omega)), (show ∀ s, s < dd * pd f (P - n) n + (j + 1) → ((ud m Q12).2.2.1 99 18).2 s = nI (pj mk f P (n + 1) s) from by rw [d12]; exact (fun s hs => by by_cases es : s = dd * pd f (P - n) n + j; exact (if_pos es).trans (congrArg nI (by rw [es]; exact (pj_step (by omega)).symm)); exact (if_neg es).trans (hJ s (by omega))))⟩ (by show pd f (P - n) n - (j + 1) < pd f (P - n) n - j; omega))
        · -- 118: not (nI j) < (nI (pd f (P - n) n))
          have nh11 : ¬ j < (pd f (P - n) n) := fun z => h11 (show nI j < nI (pd f (P - n) n) from (nI_ltI (by omega) (by omega)).mpr z)
          refine mw_go mu_g261 (k := 1) (f1 := (121, [(6, .inl ((nI dd) + 1)), (8, .inl (nI j)), (0, .inr (.inr (some 99))), (1, .inl mk), (2, .inl (nI (wn mk f P n))), (3, .inl (nI (P - 1 - n))), (4, .inl (1 : Int32)), (5, .inl (nI (adn mk f P n dd))), (7, .inl (nI (dd * (pd f (P - n) n))))], [], Hsc)) (C := []) rfl trivial ?_
          rw [(show ((nI dd) + 1) = (nI (dd + 1)) from (nI_add dd 1))]
          refine mw_go mu_g261 (k := 1) (f1 := (41, [(6, .inl (nI (dd + 1))), (8, .inl (nI j)), (0, .inr (.inr (some 99))), (1, .inl mk), (2, .inl (nI (wn mk f P n))), (3, .inl (nI (P - 1 - n))), (4, .inl (1 : Int32)), (5, .inl (nI (adn mk f P n dd))), (7, .inl (nI (dd * (pd f (P - n) n))))], [], Hsc)) (C := []) rfl trivial ?_
          show mu_W _ _ (41, [(6, .inl (nI (dd + 1))), (8, .inl (nI j)), (0, .inr (.inr (some 99))), (1, .inl mk), (2, .inl (nI (wn mk f P n))), (3, .inl (nI (P - 1 - n))), (4, .inl (1 : Int32)), (5, .inl (nI (adn mk f P n (dd + 1 - 1)))), (7, .inl (nI (dd * (pd f (P - n) n))))], [], Hsc) _
          exact mw_sub (by simp) (ihb (dd + 1, Hsc) ⟨uc, htc, (show uq F261b Va (ud m Hsc) from by rw [dc]; exact (zzb.tr zzc rfl)), (show 1 ≤ (dd + 1) from (by omega)), (show (dd + 1) ≤ f (P - 1 - n) from (by omega)), (show ∀ s, s < (dd + 1) * pd f (P - n) n → ((ud m Hsc).2.2.1 99 18).2 s = nI (pj mk f P (n + 1) s) from by rw [dc]; exact (fun s hs => hJ s (by rw [Nat.succ_mul] at hs; omega)))⟩ (by show f (P - 1 - n) - (dd + 1) < f (P - 1 - n) - dd; omega))
      · -- 124: not (nI dd) < (nI (f (P - 1 - n)))
        have nh9 : ¬ dd < (f (P - 1 - n)) := fun z => h9 (show nI dd < nI (f (P - 1 - n)) from (nI_ltI (by omega) (by omega)).mpr z)
        refine mw_go mu_g261 (k := 2) (f1 := (127, [(6, .inl (nI dd)), (5, .inl (nI (adn mk f P n (dd - 1)))), (0, .inr (.inr (some 99))), (1, .inl mk), (2, .inl (nI (wn mk f P n))), (3, .inl (nI (P - 1 - n))), (4, .inl (1 : Int32))], [.inl (1 : Int32), .inl (nI (wn mk f P n))], Hsb)) (C := []) rfl trivial ?_
        refine mw_if (P := (1 : Int32) = 0) (a := 139) (b := 130) (fun _ => rfl) trivial (fun h13 => absurd h13 (by decide)) (fun h13 => ?_)
        refine mw_go mu_g261 (k := 2) (f1 := (134, [(6, .inl (nI dd)), (5, .inl (nI (adn mk f P n (dd - 1)))), (0, .inr (.inr (some 99))), (1, .inl mk), (2, .inl (nI (wn mk f P n))), (3, .inl (nI (P - 1 - n))), (4, .inl (1 : Int32))], [.inr (.inr (mu_r Hsb 99 5)), .inl (nI (wn mk f P n))], Hsb)) (C := [mu_is Hsb (some 99) 13]) rfl (show mu_is Hsb (some 99) 13 from (ub.1.1.is rfl)) ?_
        rw [(ub.1.1.r (p := 99) (j := 5) (q := 120) rfl)]
        refine mw_go mu_g261 (k := 2) (f1 := (136, [(6, .inl (nI dd)), (5, .inl (nI (adn mk f P n (dd - 1)))), (0, .inr (.inr (some 99))), (1, .inl mk), (2, .inl (nI (wn mk f P n))), (3, .inl (nI (P - 1 - n))), (4, .inl (1 : Int32))], [.inl (mu_i Hsb 120 (nI (P - 1 - n)).toNatClampNeg), .inl (nI (wn mk f P n))], Hsb)) (C := [mu_isr Hsb (some 120) 100, vp_in (nI (P - 1 - n)) (mu_n Hsb 120)]) rfl (show (mu_isr Hsb (some 120) 100) ∧ (vp_in (nI (P - 1 - n)) (mu_n Hsb 120)) from ⟨((ub.iA db rfl rfl ((ud_q (m := m) (P := 99) (j := 5) db rfl).symm.trans (ub.1.1.r (p := 99) (j := 5) (q := 120) rfl)))).r, (by rw [show mu_n Hsb 120 = 14 from (ub.1.1.a (p := 120) (x := (100, 14)) rfl).2]; exact vp_in_nI (n := P - 1 - n) (by omega) (by decide))⟩) ?_
        rw [(show (mu_i Hsb 120 (nI (P - 1 - n)).toNatClampNeg) = (nI (f (P - 1 - n))) from ((congrArg (mu_i Hsb 120) (show (nI (P - 1 - n)).toNatClampNeg = P - 1 - n from nI_clamp (by omega))).trans (ub.gA db rfl rfl ((ud_q (m := m) (P := 99) (j := 5) db rfl).symm.trans (ub.1.1.r (p := 99) (j := 5) (q := 120) rfl)))).trans ((congrArg (fun z => z.2 (P - 1 - n)) (show Vb.2.2.1 99 5 = (U.2.2.1 99 5) from ((zzb.a 99 5 rfl).trans (zza.a 99 5 rfl)))).trans (hk5 (P - 1 - n) (by omega)).1))]
        refine mw_go mu_g261 (k := 2) (f1 := (141, [(6, .inl (nI dd)), (5, .inl (nI (adn mk f P n (dd - 1)))), (0, .inr (.inr (some 99))), (1, .inl mk), (2, .inl (nI (wn mk f P n))), (3, .inl (nI (P - 1 - n))), (4, .inl (1 : Int32))], [.inl ((nI (wn mk f P n)) * (nI (f (P - 1 - n))))], Hsb)) (C := []) rfl trivial ?_
        rw [(show ((nI (wn mk f P n)) * (nI (f (P - 1 - n)))) = (nI ((wn mk f P n) * (f (P - 1 - n)))) from (nI_mul (a := wn mk f P n) (b := f (P - 1 - n))))]
        refine mw_go mu_g261 (k := 3) (f1 := (16, [(3, .inl ((nI (P - 1 - n)) + (-1))), (2, .inl (nI ((wn mk f P n) * (f (P - 1 - n))))), (6, .inl (nI dd)), (5, .inl (nI (adn mk f P n (dd - 1)))), (0, .inr (.inr (some 99))), (1, .inl mk), (4, .inl (1 : Int32))], [], Hsb)) (C := []) rfl trivial ?_
        rw [show (nI ((wn mk f P n) * (f (P - 1 - n)))) = nI (wn mk f P (n + 1)) from congrArg nI (by show _ = wn mk f P n * (if mb mk (P - 1 - n) = 0 then 1 else f (P - 1 - n)); rw [if_neg (show ¬ mb mk (P - 1 - n) = 0 from h3)]), show nI (P - 1 - n) + (-1) = nI (P - (n + 1)) - (1 : Int32) from (Int32.sub_eq_add_neg _ _).symm.trans (congrArg (fun z => nI z - 1) (by omega))]
        exact mw_sub (by simp) (iha (n + 1, Hsb) ⟨ub, htb, (show uq F261a (upA U 99 18 0 (0 : Int32)) (ud m Hsb) from by rw [db]; exact (zza.tr zzb rfl)), (show (n + 1) ≤ P from (by omega)), (show ∀ s, s < pd f (P - (n + 1)) (n + 1) → ((ud m Hsb).2.2.1 99 18).2 s = nI (pj mk f P (n + 1) s) from by rw [db]; exact (fun s hs => hD s (by rw [show dd = f (P - 1 - n) by omega, ← e1]; exact hs)))⟩ (by show P - (n + 1) < P - n; omega))
end Project
