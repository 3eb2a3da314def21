/-! THE STORE OF SETS: what add finds again lies behind what was forgotten -/
def FRK (U : Ud) (N fb : Nat) : Prop := (∀ k M, U.2.1 113 5 = nI M → M < 4096 → k ≤ M → (U.2.2.1 113 4).2 k = -1 ∨ ∃ id, id < N ∧ fb ≤ id ∧ (U.2.2.1 113 4).2 k = nI id) ∧ ∀ id st fc, id < N → fb ≤ id → sat U id st fc → ∀ c, cnx fc st = c + 1 → fb ≤ c
section Forgotten
variable {U V X : Ud} {N us fb fr ln hd fm n : Nat} {ls z : Nat → Nat} {S : Nat → Nat → Bool} {p : Nat → Bool} {v : Int32}
theorem FRK.same (h : FRK U N fb) (e5 : V.2.1 113 5 = U.2.1 113 5) (e3 : V.2.2.1 113 3 = U.2.2.1 113 3) (e4 : V.2.2.1 113 4 = U.2.2.1 113 4) (ep : V.2.2.2.2.2 = U.2.2.2.2.2) : FRK V N fb := by
  unfold FRK sat at *
  rw [e5, e3, e4, ep]
  exact h
theorem neg_nI {a b : Nat} (ha : a < 2147483648) (hb : b < 32768) : ¬ nI a = -1 - nI b := by
  intro h
  have h1 : (nI a).toInt = (a : Int) := Int32.toInt_ofNat_of_lt (by omega)
  have h2 : (nI b).toInt = (b : Int) := Int32.toInt_ofNat_of_lt (by omega)
  have h3 : (-1 - nI b).toInt = ((-1 : Int32).toInt - (nI b).toInt).bmod (2 ^ 32) := Int32.toInt_sub _ _
  rw [← h, h1, h2, show (-1 : Int32).toInt = -1 by decide] at h3
  rw [Int.bmod_def] at h3
  split at h3 <;> omega
theorem addk_in (h1 : v = -1 ∨ ∃ id, id < N ∧ p id = true ∧ v = nI id) (h2 : v = -1 ∨ ∃ id, id < N ∧ fb ≤ id ∧ v = nI id) (hN : N ≤ 524288) : v = -1 ∨ ∃ id, id < N ∧ p id = true ∧ fb ≤ id ∧ v = nI id := by
  rcases h1 with y | ⟨id, a1, a2, a3⟩
  · exact Or.inl y
  · rcases h2 with y | ⟨id', b1, b2, b3⟩
    · exact Or.inl y
    · have e : id = id' := nI_inj (by omega) (by omega) (a3.symm.trans b3)
      exact Or.inr ⟨id, a1, a2, by omega, a3⟩
theorem add_nextK {id st : Nat} {fc : Nat → Int64} (hid : id < N) (h1 : cnx fc st ≤ id) (h2 : ∀ c, cnx fc st = c + 1 → p c = true) (h3 : ∀ c, cnx fc st = c + 1 → fb ≤ c) (hN : N ≤ 524288) : (((((fc (st % 8192)) &&& (70368677068800 : Int64)).toUInt64 >>> ((26 : Int32).toInt64.toUInt64 &&& Int64.toUInt64 63)).toInt64).toInt32 - (1 : Int32)) = -1 ∨ ∃ id, id < N ∧ p id = true ∧ fb ≤ id ∧ (((((fc (st % 8192)) &&& (70368677068800 : Int64)).toUInt64 >>> ((26 : Int32).toInt64.toUInt64 &&& Int64.toUInt64 63)).toInt64).toInt32 - (1 : Int32)) = nI id :=
  addk_in (add_next hid h1 h2) ((add_next (p := fun q => decide (fb ≤ q)) hid h1 (fun c hc => decide_eq_true (h3 c hc))).imp (fun y => y) (fun ⟨i, y1, y2, y3⟩ => ⟨i, y1, of_decide_eq_true y2, y3⟩)) hN
theorem FRK.keep (hF : FRK X N fb) (hS : SOK X N us S z p) (hk : KPs X V N fr ln hd) (hfr : frm us ln fr) (hc : fr / 8192 < 184) (hW : WRK (X.2.2.2.2.1 117) ln fm n ls) (hN : N < 524288) (hhd : ∃ kk, kk ≤ 12 ∧ X.2.1 113 5 = nI (2 ^ kk - 1) ∧ (∀ k, k < 2 ^ kk → (X.2.2.1 113 4).2 k = -1 ∨ ∃ id, id < N ∧ p id = true ∧ (X.2.2.1 113 4).2 k = nI id) ∧ hd < 2 ^ kk) (hfN : fb ≤ N) : FRK V (N + 1) fb := by
  obtain ⟨h1, h2, h3, -, h5, h6, h7⟩ := hS
  obtain ⟨kk, hkk, hm5, hh4, hdk⟩ := hhd
  obtain ⟨q, qi, qL, qj, qN, q4, ⟨g, gc0, gold, gw, gws⟩, qo⟩ := hk
  have hl8 := hW.2.2.1.2.1
  obtain ⟨f1, f2, f3, f4⟩ := frm_b hfr hl8
  have hk12 : 2 ^ kk ≤ 2 ^ 12 := Nat.pow_le_pow_right (by decide) hkk
  refine ⟨fun k M e5 hM hkM => ?_, fun id st fc hid hfb hsat c hcx => ?_⟩
  · rw [q4 k]
    by_cases e : k = hd
    · rw [if_pos e]
      exact Or.inr ⟨N, by omega, hfN, rfl⟩
    · rw [if_neg e]
      rcases hF.1 k M ((q.i 113 5 rfl).symm.trans e5) hM hkM with y | ⟨id, y1, y2, y3⟩
      · exact Or.inl y
      · exact Or.inr ⟨id, by omega, y2, y3⟩
  · obtain ⟨⟨s1, s1'⟩, s2, s3, s4⟩ := hsat
    by_cases e : id = N
    · rw [e, qN] at s2
      have est : fr = st := nI_inj (by omega) (by omega) s2
      rw [← est, gc0] at s4
      have eg : g = fc := congrArg Prod.snd (Option.some.inj s4)
      obtain ⟨c0, c1, c2, c3, c4⟩ := hd_chain (p := fun q => decide (fb ≤ q)) ((hF.1 hd (2 ^ kk - 1) hm5 (by omega) (by omega)).imp (fun y => y) (fun ⟨i, y1, y2, y3⟩ => ⟨i, y1, decide_eq_true y2, y3⟩)) (by omega : N ≤ 524288)
      have ech : cnx g fr = c0 := by
        unfold cnx
        rw [gw, or_mid hW.2.1 (by rw [c1]; exact c2), c1]
      rw [← est, ← eg, ech] at hcx
      exact of_decide_eq_true (c4 c hcx)
    · have hid' : id < N := by omega
      rw [qj id hid'] at s2
      cases hp : p id with
      | false =>
        obtain ⟨t1, t2, t3⟩ := h6 id hid' hp
        exact absurd (s2.symm.trans t2) (neg_nI (by omega) t3)
      | true =>
        obtain ⟨st', fc', hsx, t1, t2, t3, t4, t5⟩ := h5 id hid' hp
        have hsx0 := hsx
        obtain ⟨⟨r1, r1'⟩, r2, r3, r4⟩ := hsx0
        have est : st' = st := nI_inj (by omega) (by omega) (r2.symm.trans s2)
        rw [est] at hsx r4 t3
        have hcc : cnx fc st = cnx fc' st := by
          by_cases ec : st / 8192 = fr / 8192
          · rw [ec, gc0] at s4
            rw [ec] at r4
            have eg : g = fc := congrArg Prod.snd (Option.some.inj s4)
            have e0 : g (st % 8192) = fc' (st % 8192) := gold fc' r4 _ (by omega)
            unfold cnx
            rw [← eg, e0]
          · rw [qo 114 _ (fun y => ec y.2), r4] at s4
            have eg : fc' = fc := congrArg Prod.snd (Option.some.inj s4)
            rw [eg]
        rw [hcc] at hcx
        exact hF.2 id st fc' hid' hfb hsx c hcx
theorem FRK.none (hF : FRK X N fb) (hk : KPn X V N n) (hn : n ≤ 16384) (hfN : fb ≤ N) (hl : (X.2.2.1 113 3).1 < 2147483648) (hNl : N ≤ (X.2.2.1 113 3).1) : FRK V (N + 1) fb := by
  obtain ⟨q, qi, qL, qj, qN, q4, qo⟩ := hk
  refine ⟨fun k M e5 hM hkM => ?_, fun id st fc hid hfb hsat c hcx => ?_⟩
  · rw [q4]
    rcases hF.1 k M ((q.i 113 5 rfl).symm.trans e5) hM hkM with y | ⟨id, y1, y2, y3⟩
    · exact Or.inl y
    · exact Or.inr ⟨id, by omega, y2, y3⟩
  · obtain ⟨⟨s1, s1'⟩, s2, s3, s4⟩ := hsat
    by_cases e : id = N
    · rw [e, qN] at s2
      exact absurd s2.symm (neg_nI (by omega) (by omega))
    · have hid' : id < N := by omega
      rw [qj id hid'] at s2
      rw [qo] at s4
      exact hF.2 id st fc hid' hfb ⟨⟨by omega, hl⟩, s2, s3, s4⟩ c hcx
end Forgotten
section AddsK
variable {H : mu_H} {U : Ud} {m d n N us fb : Nat} {C : Nat → Nat} {ls : Nat → Nat} {S : Nat → Nat → Bool} {z : Nat → Nat} {p : Nat → Bool}

theorem st_addK_129 (h : um m H) (e : ud m H = U) (hL : ∀ i, i < n → (U.2.2.1 129 10).2 i = nI (ls i)) (hLN : n ≤ (U.2.2.1 129 10).1) (hLN2 : (U.2.2.1 129 10).1 < 2147483648) (hb : ∀ i, i < n → ls i < 16384) (hr : ∀ i j, i < j → j < n → ls i < ls j) (hS : SOK U N us S z p) (hN5 : N < 524288) (hFK : FRK U N fb) (hfN : fb ≤ N) : mu_TI (mu_D (d + 4)) 250 [.inr (.inr (some 113)), .inr (.inr (U.2.2.2.1 129 10)), .inl (nI n)] H (fun x H1 => ∃ id, x = nI id ∧ um m H1 ∧ ur m C H H1 ∧ ADD U (ud m H1) N us S z p ls n id ∧ fb ≤ id ∧ ∃ N1, (ud m H1).2.1 113 2 = nI N1 ∧ (N ≤ N1 ∧ N1 ≤ N + 1) ∧ FRK (ud m H1) N1 fb) := by
  obtain ⟨kk, hkk, hm5, hh4⟩ := hS.2.2.2.1
  have hnb : n ≤ 16384 := by
    by_cases h0 : n = 0
    · omega
    · have z1 := rise_le hr (n - 1) (by omega)
      have z2 := hb (n - 1) (by omega)
      omega
  have hN6 := hN5
  have hk12 : 2 ^ kk ≤ 2 ^ 12 := Nat.pow_le_pow_right (by decide) hkk
  refine mu_meth (M := mu_m250) rfl rfl ?_
  refine mw_ht (mu_fn_of (show [0, 1, 2].Nodup by decide)) ?_
  refine mw_go mu_g250 (k := 3) (f1 := (3, [(0, .inr (.inr (some 113))), (1, .inr (.inr (U.2.2.2.1 129 10))), (2, .inl (nI n))], [.inl (nI n), .inr (.inr (U.2.2.2.1 129 10)), .inr (.inr (some 113))], H)) (C := []) rfl trivial ?_
  refine mw_cI (fun _ => rfl) (show mu_is H (some 113) 11 from (h.1.1.is rfl)) (st_enc_129 (d := d) (C := C) (ls := ls) (n := n) h e hL hLN hLN2 hb hr) (fun x1 Q1 q1 => ?_)
  obtain ⟨ln, fm, rfl, hfm4, hl8, hlb, u1, r1, z1, hh0, hst⟩ := q1
  have ht1 : ur m C H Q1 := (ur.refl m C H).trans r1
  obtain ⟨V1, d1⟩ : ∃ V, ud m Q1 = V := ⟨_, rfl⟩
  rw [d1] at z1 hh0 hst
  have qf1 : uq F254 U V1 := (uq.refl F254 U).tr z1 rfl
  have hS1 : SOK V1 N us S z p := hS.q z1 rfl rfl rfl rfl rfl rfl
  have hoo : ∀ a c, ¬ a = 114 → V1.2.2.2.2.2 a c = U.2.2.2.2.2 a c := fun a c _ => congrFun (congrFun (z1.2.2.2.2.2 rfl) a) c
  refine mw_go mu_g250 (k := 3) (f1 := (11, [(3, .inl (nI ln)), (0, .inr (.inr (some 113))), (1, .inr (.inr (U.2.2.2.1 129 10))), (2, .inl (nI n))], [.inr (.inr (mu_r Q1 113 6))], Q1)) (C := [mu_is Q1 (some 113) 11]) rfl (show mu_is Q1 (some 113) 11 from (u1.1.1.is rfl)) ?_
  rw [(u1.1.1.r (p := 113) (j := 6) (q := 117) rfl)]
  refine mw_go mu_g250 (k := 2) (f1 := (13, [(3, .inl (nI ln)), (0, .inr (.inr (some 113))), (1, .inr (.inr (U.2.2.2.1 129 10))), (2, .inl (nI n))], [.inr (.inl (mu_l Q1 117 (0 : Int32).toNatClampNeg))], Q1)) (C := [mu_isr Q1 (some 117) 102, vp_in (0 : Int32) (mu_n Q1 117)]) rfl (show (mu_isr Q1 (some 117) 102) ∧ (vp_in (0 : Int32) (mu_n Q1 117)) from ⟨((u1.1.1.a (p := 117) (x := (102, 257)) rfl).1).r, (by rw [show mu_n Q1 117 = 257 from (u1.1.1.a (p := 117) (x := (102, 257)) rfl).2]; exact vp_in_nI (n := 0) (by omega) (by decide))⟩) ?_
  rw [(show (mu_l Q1 117 (0 : Int32).toNatClampNeg) = (V1.2.2.2.2.1 117) 0 from (congrArg (mu_l Q1 117) (show (0 : Int32).toNatClampNeg = 0 from by decide)).trans ((ud_l (m := m) (p := 117) (i := 0) d1 rfl).trans (congrFun (show V1.2.2.2.2.1 117 = (V1.2.2.2.2.1 117) from rfl) 0)))]
  refine mw_go mu_g250 (k := 3) (f1 := (18, [(6, .inl (1 : Int32)), (4, .inr (.inl ((V1.2.2.2.2.1 117) 0))), (3, .inl (nI ln)), (0, .inr (.inr (some 113))), (1, .inr (.inr (U.2.2.2.1 129 10))), (2, .inl (nI n))], [], Q1)) (C := []) rfl trivial ?_
  show mu_W _ _ (18, [(6, .inl (nI 1)), (4, .inr (.inl ((V1.2.2.2.2.1 117) 0))), (3, .inl (nI ln)), (0, .inr (.inr (some 113))), (1, .inr (.inr (U.2.2.2.1 129 10))), (2, .inl (nI n))], [], Q1) _
  refine mw_sub (L' := [(6, .inl (nI 1)), (4, .inr (.inl ((V1.2.2.2.2.1 117) 0))), (0, .inr (.inr (some 113))), (1, .inr (.inr (U.2.2.2.1 129 10))), (2, .inl (nI n)), (3, .inl (nI ln))]) (by simp) ?_
  refine mw_down (α := Nat × Int64) (fun zs => (18, [(6, .inl (nI zs.1)), (4, .inr (.inl zs.2)), (0, .inr (.inr (some 113))), (1, .inr (.inr (U.2.2.2.1 129 10))), (2, .inl (nI n)), (3, .inl (nI ln))], [], Q1)) (fun zs => ln + 1 - zs.1) (fun zs => (1 ≤ zs.1 ∧ zs.1 ≤ ln + 1)) (fun zs hza iha => ?_) (1, ((V1.2.2.2.2.1 117) 0)) (show 1 ≤ 1 ∧ 1 ≤ ln + 1 from (by omega))
  obtain ⟨y, hs⟩ := zs
  have hw := hza
  have hw : 1 ≤ y ∧ y ≤ ln + 1 := hw
  show mu_W _ _ (18, [(6, .inl (nI y)), (4, .inr (.inl hs)), (0, .inr (.inr (some 113))), (1, .inr (.inr (U.2.2.2.1 129 10))), (2, .inl (nI n)), (3, .inl (nI ln))], [], Q1) _
  refine mw_go mu_g250 (k := 2) (f1 := (21, [(6, .inl (nI y)), (4, .inr (.inl hs)), (0, .inr (.inr (some 113))), (1, .inr (.inr (U.2.2.2.1 129 10))), (2, .inl (nI n)), (3, .inl (nI ln))], [.inl (nI ln), .inl (nI y)], Q1)) (C := []) rfl trivial ?_
  refine mw_if (P := (nI ln) < (nI y)) (a := 56) (b := 24) (fun _ => rfl) trivial (fun h2 => ?_) (fun h2 => ?_)
  · -- 56: (nI ln) < (nI y)
    have nh2 : ln < y := (nI_ltI (by omega) (by omega)).mp (show nI ln < nI y from h2)
    refine mw_go mu_g250 (k := 4) (f1 := (63, [(6, .inl (nI y)), (4, .inr (.inl hs)), (0, .inr (.inr (some 113))), (1, .inr (.inr (U.2.2.2.1 129 10))), (2, .inl (nI n)), (3, .inl (nI ln))], [.inl (mu_i Q1 113 5), .inl (hs.toInt32)], Q1)) (C := [mu_is Q1 (some 113) 11]) rfl (show mu_is Q1 (some 113) 11 from (u1.1.1.is rfl)) ?_
    rw [(show mu_i Q1 113 5 = (nI (2 ^ kk - 1)) from (ud_i (U := V1) (m := m) (P := 113) (j := 5) d1 rfl).trans ((z1.i 113 5 rfl).trans hm5))]
    refine mw_go mu_g250 (k := 1) (f1 := (64, [(6, .inl (nI y)), (4, .inr (.inl hs)), (0, .inr (.inr (some 113))), (1, .inr (.inr (U.2.2.2.1 129 10))), (2, .inl (nI n)), (3, .inl (nI ln))], [.inl ((hs.toInt32) &&& (nI (2 ^ kk - 1)))], Q1)) (C := []) rfl trivial ?_
    obtain ⟨hd, hhd⟩ : ∃ y, y = tnz hs % 2 ^ kk := ⟨_, rfl⟩
    have hdk : hd < 2 ^ kk := by rw [hhd]; exact Nat.mod_lt _ (Nat.two_pow_pos _)
    have hd4 : hd < 4096 := Nat.lt_of_lt_of_le hdk (Nat.pow_le_pow_right (by decide) hkk)
    rw [show ((hs.toInt32) &&& (nI (2 ^ kk - 1))) = (nI hd) from (l2i_val (by omega)).trans (congrArg nI hhd.symm)]
    refine mw_go mu_g250 (k := 3) (f1 := (70, [(6, .inl (nI hd)), (4, .inr (.inl hs)), (0, .inr (.inr (some 113))), (1, .inr (.inr (U.2.2.2.1 129 10))), (2, .inl (nI n)), (3, .inl (nI ln))], [.inr (.inr (mu_r Q1 113 6))], Q1)) (C := [mu_is Q1 (some 113) 11]) rfl (show mu_is Q1 (some 113) 11 from (u1.1.1.is rfl)) ?_
    rw [(u1.1.1.r (p := 113) (j := 6) (q := 117) rfl)]
    refine mw_go mu_g250 (k := 3) (f1 := (73, [(6, .inl (nI hd)), (4, .inr (.inl hs)), (0, .inr (.inr (some 113))), (1, .inr (.inr (U.2.2.2.1 129 10))), (2, .inl (nI n)), (3, .inl (nI ln))], [.inr (.inl (mu_l Q1 117 (0 : Int32).toNatClampNeg)), .inl (0 : Int32), .inr (.inr (some 117))], Q1)) (C := [mu_isr Q1 (some 117) 102, vp_in (0 : Int32) (mu_n Q1 117)]) rfl (show (mu_isr Q1 (some 117) 102) ∧ (vp_in (0 : Int32) (mu_n Q1 117)) from ⟨((u1.1.1.a (p := 117) (x := (102, 257)) rfl).1).r, (by rw [show mu_n Q1 117 = 257 from (u1.1.1.a (p := 117) (x := (102, 257)) rfl).2]; exact vp_in_nI (n := 0) (by omega) (by decide))⟩) ?_
    rw [(show (mu_l Q1 117 (0 : Int32).toNatClampNeg) = (V1.2.2.2.2.1 117) 0 from (congrArg (mu_l Q1 117) (show (0 : Int32).toNatClampNeg = 0 from by decide)).trans ((ud_l (m := m) (p := 117) (i := 0) d1 rfl).trans (congrFun (show V1.2.2.2.2.1 117 = (V1.2.2.2.2.1 117) from rfl) 0)))]
    refine mw_go mu_g250 (k := 6) (f1 := (82, [(6, .inl (nI hd)), (4, .inr (.inl hs)), (0, .inr (.inr (some 113))), (1, .inr (.inr (U.2.2.2.1 129 10))), (2, .inl (nI n)), (3, .inl (nI ln))], [.inr (.inl (((V1.2.2.2.2.1 117) 0) ||| (((hs.toUInt64 >>> ((46 : Int32).toInt64.toUInt64 &&& Int64.toUInt64 63)).toInt64) <<< ((46 : Int32).toInt64 &&& 63)))), .inl (0 : Int32), .inr (.inr (some 117))], Q1)) (C := []) rfl trivial ?_
    obtain ⟨w1, hw1⟩ : ∃ y, y = (((V1.2.2.2.2.1 117) 0) ||| (((hs.toUInt64 >>> ((46 : Int32).toInt64.toUInt64 &&& Int64.toUInt64 63)).toInt64) <<< ((46 : Int32).toInt64 &&& 63))) := ⟨_, rfl⟩
    rw [← hw1]
    have hlow : tnz w1 % 2 ^ 46 = tnz (V1.2.2.2.2.1 117 0) % 2 ^ 46 := by rw [hw1]; exact or_low (s := 46) (by decide)
    have hlw2 : tnz w1 % 70368744177664 = tnz (V1.2.2.2.2.1 117 0) % 70368744177664 := hlow
    refine mw_go mu_g250 (k := 1) (f1 := (83, [(6, .inl (nI hd)), (4, .inr (.inl hs)), (0, .inr (.inr (some 113))), (1, .inr (.inr (U.2.2.2.1 129 10))), (2, .inl (nI n)), (3, .inl (nI ln))], [], (mu_sl Q1 117 (0 : Int32).toNatClampNeg w1))) (C := [mu_is Q1 (some 117) 102, vp_in (0 : Int32) (mu_n Q1 117)]) rfl (show (mu_is Q1 (some 117) 102) ∧ (vp_in (0 : Int32) (mu_n Q1 117)) from ⟨((u1.1.1.a (p := 117) (x := (102, 257)) rfl).1), (by rw [show mu_n Q1 117 = 257 from (u1.1.1.a (p := 117) (x := (102, 257)) rfl).2]; exact vp_in_nI (n := 0) (by omega) (by decide))⟩) ?_
    rw [(show (0 : Int32).toNatClampNeg = 0 from by decide)]
    obtain ⟨u3, r3, d3⟩ : um m (mu_sl Q1 117 0 w1) ∧ ur m C Q1 (mu_sl Q1 117 0 w1) ∧ ud m (mu_sl Q1 117 0 w1) = (upL V1 117 0 w1) := u1.sL (C := C) d1 rfl
    generalize (mu_sl Q1 117 0 w1) = Q3 at u3 r3 d3 ⊢
    have qf3 : uq F254 U (upL V1 117 0 w1) := qf1.L rfl
    have ht3 : ur m C H Q3 := ht1.trans r3
    have hS2 : SOK (upL V1 117 0 w1) N us S z p := hS1.eq rfl rfl rfl rfl rfl rfl
    have hW : WRK ((upL V1 117 0 w1).2.2.2.2.1 117) ln fm n ls := add_wrk hh0 hst hfm4 hl8 (by omega) hlw2
    have hhk : ∃ kk, kk ≤ 12 ∧ (upL V1 117 0 w1).2.1 113 5 = nI (2 ^ kk - 1) ∧ (∀ k, k < 2 ^ kk → ((upL V1 117 0 w1).2.2.1 113 4).2 k = -1 ∨ ∃ id, id < N ∧ p id = true ∧ ((upL V1 117 0 w1).2.2.1 113 4).2 k = nI id) ∧ hd < 2 ^ kk := ⟨kk, hkk, (z1.i 113 5 rfl).trans hm5, (fun k hk => by rw [show (upL V1 117 0 w1).2.2.1 113 4 = U.2.2.1 113 4 from z1.a 113 4 rfl]; exact hh4 k hk), hdk⟩
    refine mw_go mu_g250 (k := 2) (f1 := (87, [(6, .inl (nI hd)), (4, .inr (.inl hs)), (0, .inr (.inr (some 113))), (1, .inr (.inr (U.2.2.2.1 129 10))), (2, .inl (nI n)), (3, .inl (nI ln))], [.inr (.inr (mu_r Q3 113 4))], Q3)) (C := [mu_is Q3 (some 113) 11]) rfl (show mu_is Q3 (some 113) 11 from (u3.1.1.is rfl)) ?_
    rw [(u3.1.1.r (p := 113) (j := 4) (q := 116) rfl)]
    refine mw_go mu_g250 (k := 2) (f1 := (90, [(6, .inl (nI hd)), (4, .inr (.inl hs)), (0, .inr (.inr (some 113))), (1, .inr (.inr (U.2.2.2.1 129 10))), (2, .inl (nI n)), (3, .inl (nI ln))], [.inl (mu_i Q3 116 (nI hd).toNatClampNeg)], Q3)) (C := [mu_isr Q3 (some 116) 100, vp_in (nI hd) (mu_n Q3 116)]) rfl (show (mu_isr Q3 (some 116) 100) ∧ (vp_in (nI hd) (mu_n Q3 116)) from ⟨((u3.iA d3 rfl rfl ((ud_q (m := m) (P := 113) (j := 4) d3 rfl).symm.trans (u3.1.1.r (p := 113) (j := 4) (q := 116) rfl)))).r, (by rw [show mu_n Q3 116 = 4096 from (u3.1.1.a (p := 116) (x := (100, 4096)) rfl).2]; exact vp_in_nI (n := hd) (by omega) (by decide))⟩) ?_
    rw [(show (mu_i Q3 116 (nI hd).toNatClampNeg) = ((U.2.2.1 113 4).2 hd) from ((congrArg (mu_i Q3 116) (show (nI hd).toNatClampNeg = hd from nI_clamp (by omega))).trans (u3.gA d3 rfl rfl ((ud_q (m := m) (P := 113) (j := 4) d3 rfl).symm.trans (u3.1.1.r (p := 113) (j := 4) (q := 116) rfl)))).trans ((congrArg (fun z => z.2 hd) (show (upL V1 117 0 w1).2.2.1 113 4 = (U.2.2.1 113 4) from (z1.a 113 4 rfl))).trans rfl))]
    refine mw_go mu_g250 (k := 3) (f1 := (95, [(8, .inl (0 : Int32)), (7, .inl ((U.2.2.1 113 4).2 hd)), (6, .inl (nI hd)), (4, .inr (.inl hs)), (0, .inr (.inr (some 113))), (1, .inr (.inr (U.2.2.2.1 129 10))), (2, .inl (nI n)), (3, .inl (nI ln))], [], Q3)) (C := []) rfl trivial ?_
    show mu_W _ _ (95, [(8, .inl (nI 0)), (7, .inl ((U.2.2.1 113 4).2 hd)), (6, .inl (nI hd)), (4, .inr (.inl hs)), (0, .inr (.inr (some 113))), (1, .inr (.inr (U.2.2.2.1 129 10))), (2, .inl (nI n)), (3, .inl (nI ln))], [], Q3) _
    refine mw_sub (L' := [(8, .inl (nI 0)), (7, .inl ((U.2.2.1 113 4).2 hd)), (0, .inr (.inr (some 113))), (1, .inr (.inr (U.2.2.2.1 129 10))), (2, .inl (nI n)), (3, .inl (nI ln)), (6, .inl (nI hd))]) (by simp) ?_
    refine mw_down (α := Nat × Int32) (fun zs => (95, [(8, .inl (nI zs.1)), (7, .inl zs.2), (0, .inr (.inr (some 113))), (1, .inr (.inr (U.2.2.2.1 129 10))), (2, .inl (nI n)), (3, .inl (nI ln)), (6, .inl (nI hd))], [], Q3)) (fun zs => N - zs.1) (fun zs => (zs.1 ≤ N) ∧ (zs.2 = -1 ∨ ∃ id, id < N ∧ p id = true ∧ fb ≤ id ∧ zs.2 = nI id)) (fun zs hzb ihb => ?_) (0, ((U.2.2.1 113 4).2 hd)) ⟨(show 0 ≤ N from (by omega)), (show ((U.2.2.1 113 4).2 hd) = -1 ∨ ∃ id, id < N ∧ p id = true ∧ fb ≤ id ∧ ((U.2.2.1 113 4).2 hd) = nI id from (addk_in (hh4 hd hdk) (hFK.1 hd _ hm5 (by omega) (by omega)) (by omega)))⟩
    obtain ⟨i, v⟩ := zs
    obtain ⟨hi, hv⟩ := hzb
    have hi : i ≤ N := hi
    have hv : v = -1 ∨ ∃ id, id < N ∧ p id = true ∧ fb ≤ id ∧ v = nI id := hv
    show mu_W _ _ (95, [(8, .inl (nI i)), (7, .inl v), (0, .inr (.inr (some 113))), (1, .inr (.inr (U.2.2.2.1 129 10))), (2, .inl (nI n)), (3, .inl (nI ln)), (6, .inl (nI hd))], [], Q3) _
    refine mw_go mu_g250 (k := 3) (f1 := (101, [(8, .inl (nI i)), (7, .inl v), (0, .inr (.inr (some 113))), (1, .inr (.inr (U.2.2.2.1 129 10))), (2, .inl (nI n)), (3, .inl (nI ln)), (6, .inl (nI hd))], [.inl (mu_i Q3 113 2), .inl (nI i)], Q3)) (C := [mu_is Q3 (some 113) 11]) rfl (show mu_is Q3 (some 113) 11 from (u3.1.1.is rfl)) ?_
    rw [(show mu_i Q3 113 2 = (nI N) from (ud_i (U := (upL V1 117 0 w1)) (m := m) (P := 113) (j := 2) d3 rfl).trans ((z1.i 113 2 rfl).trans hS.1.2.2.1))]
    refine mw_if (P := (nI i) < (nI N)) (a := 104) (b := 166) (fun _ => rfl) trivial (fun h4 => ?_) (fun h4 => ?_)
    · -- 104: (nI i) < (nI N)
      have nh4 : i < N := (nI_ltI (by omega) (by omega)).mp (show nI i < nI N from h4)
      refine mw_go mu_g250 (k := 1) (f1 := (106, [(8, .inl (nI i)), (7, .inl v), (0, .inr (.inr (some 113))), (1, .inr (.inr (U.2.2.2.1 129 10))), (2, .inl (nI n)), (3, .inl (nI ln)), (6, .inl (nI hd))], [.inl v], Q3)) (C := []) rfl trivial ?_
      refine mw_if (P := v < 0) (a := 166) (b := 109) (fun _ => rfl) trivial (fun h5 => ?_) (fun h5 => ?_)
      · -- 166: v < 0
        refine mw_go mu_g250 (k := 4) (f1 := (171, [(8, .inl (nI i)), (7, .inl v), (0, .inr (.inr (some 113))), (1, .inr (.inr (U.2.2.2.1 129 10))), (2, .inl (nI n)), (3, .inl (nI ln)), (6, .inl (nI hd))], [.inl (nI n), .inl (nI hd), .inl (nI ln), .inr (.inr (some 113))], Q3)) (C := []) rfl trivial ?_
        refine mw_cI (fun _ => rfl) (show mu_is Q3 (some 113) 11 from (u3.1.1.is rfl)) (st_keepK (d := d) (C := C) (us := us) (N := N) (ln := ln) (hd := hd) (n := n) u3 d3 hS2.1.1 hS2.1.2.1 hS2.1.2.2.1 hS2.2.1.1 hS2.2.1.2.1 (by have z := hS2.2.1.2.2; omega) hS2.2.2.1 hl8 hd4 (by omega)) (fun x6 Q6 q6 => ?_)
        obtain ⟨rfl, u6, r6, z6, fr, hfr, hkp⟩ := q6
        have ht6 : ur m C H Q6 := ht3.trans r6
        obtain ⟨V6, d6⟩ : ∃ V, ud m Q6 = V := ⟨_, rfl⟩
        rw [d6] at z6 hkp
        have qf6 : uq F254 U V6 := qf3.tr z6 rfl
        exact mw_of (fun _ => mu_ret rfl trivial ⟨(nI N), Q6, rfl, N, rfl, u6, ht6, (by rw [d6]; exact ⟨ADD.new qf3 (fun a c h => hoo a c h) hS2 z6 hfr hkp hW hN5 hhk hr hb hlb, hfN, N + 1, (by rcases hkp with y | y; (exact y.2.2.1.2); (exact y.2.2.1.2)), ⟨by omega, Nat.le_refl _⟩, (by have hF2 : FRK (upL V1 117 0 w1) N fb := hFK.same (show ((upL V1 117 0 w1).2.1 113 5) = (U.2.1 113 5) from (z1.i 113 5 rfl)) (show ((upL V1 117 0 w1).2.2.1 113 3) = (U.2.2.1 113 3) from (z1.a 113 3 rfl)) (show ((upL V1 117 0 w1).2.2.1 113 4) = (U.2.2.1 113 4) from (z1.a 113 4 rfl)) (z1.2.2.2.2.2 rfl); rcases hkp with y | y; (exact hF2.keep hS2 y.2 hfr y.1 hW hN5 hhk hfN); (exact hF2.none y.2 (by omega) hfN (by have y2 := hS2.2.1.2.2; omega) hS2.2.1.1))⟩)⟩)
      · -- 109: not v < 0
        obtain ⟨id, hid, hpid, hfbi, hve⟩ : ∃ id, id < N ∧ p id = true ∧ fb ≤ id ∧ v = nI id := hv.resolve_left (fun z => h5 (by rw [z]; decide))
        rw [hve]
        obtain ⟨st, fc, hsat, hstz, hsz1, hbel, hch1, hch2⟩ := hS2.2.2.2.2.1 id hid hpid
        have hsU : sat U id st fc := by unfold sat at hsat ⊢; rw [show (upL V1 117 0 w1).2.2.1 113 3 = U.2.2.1 113 3 from (z1.a 113 3 rfl), show (upL V1 117 0 w1).2.2.2.2.2 = U.2.2.2.2.2 from (z1.2.2.2.2.2 rfl)] at hsat; exact hsat
        refine mw_go mu_g250 (k := 2) (f1 := (112, [(8, .inl (nI i)), (7, .inl (nI id)), (0, .inr (.inr (some 113))), (1, .inr (.inr (U.2.2.2.1 129 10))), (2, .inl (nI n)), (3, .inl (nI ln)), (6, .inl (nI hd))], [.inl (nI id), .inr (.inr (some 113))], Q3)) (C := []) rfl trivial ?_
        refine mw_cL (fun _ => rfl) (show mu_is Q3 (some 113) 11 from (u3.1.1.is rfl)) (st_head (d := (d + 2)) u3 d3 hsat) (fun x7 H7 q7 => ?_)
        rw [q7.1, q7.2]
        refine mw_go mu_g250 (k := 4) (f1 := (123, [(8, .inl (nI i)), (7, .inl (nI id)), (0, .inr (.inr (some 113))), (1, .inr (.inr (U.2.2.2.1 129 10))), (2, .inl (nI n)), (3, .inl (nI ln)), (6, .inl (nI hd))], [.inr (.inr (mu_r Q3 113 6)), .inr (.inl ((fc (st % 8192)) &&& (-70368677068801 : Int64)))], Q3)) (C := [mu_is Q3 (some 113) 11]) rfl (show mu_is Q3 (some 113) 11 from (u3.1.1.is rfl)) ?_
        rw [(u3.1.1.r (p := 113) (j := 6) (q := 117) rfl)]
        refine mw_go mu_g250 (k := 2) (f1 := (125, [(8, .inl (nI i)), (7, .inl (nI id)), (0, .inr (.inr (some 113))), (1, .inr (.inr (U.2.2.2.1 129 10))), (2, .inl (nI n)), (3, .inl (nI ln)), (6, .inl (nI hd))], [.inr (.inl (mu_l Q3 117 (0 : Int32).toNatClampNeg)), .inr (.inl ((fc (st % 8192)) &&& (-70368677068801 : Int64)))], Q3)) (C := [mu_isr Q3 (some 117) 102, vp_in (0 : Int32) (mu_n Q3 117)]) rfl (show (mu_isr Q3 (some 117) 102) ∧ (vp_in (0 : Int32) (mu_n Q3 117)) from ⟨((u3.1.1.a (p := 117) (x := (102, 257)) rfl).1).r, (by rw [show mu_n Q3 117 = 257 from (u3.1.1.a (p := 117) (x := (102, 257)) rfl).2]; exact vp_in_nI (n := 0) (by omega) (by decide))⟩) ?_
        rw [(show (mu_l Q3 117 (0 : Int32).toNatClampNeg) = w1 from (congrArg (mu_l Q3 117) (show (0 : Int32).toNatClampNeg = 0 from by decide)).trans ((ud_l (m := m) (p := 117) (i := 0) d3 rfl).trans (show (upL V1 117 0 w1).2.2.2.2.1 117 0 = w1 from rfl)))]
        refine mw_go mu_g250 (k := 1) (f1 := (126, [(8, .inl (nI i)), (7, .inl (nI id)), (0, .inr (.inr (some 113))), (1, .inr (.inr (U.2.2.2.1 129 10))), (2, .inl (nI n)), (3, .inl (nI ln)), (6, .inl (nI hd))], [.inl (lg_cmp ((fc (st % 8192)) &&& (-70368677068801 : Int64)) w1)], Q3)) (C := []) rfl trivial ?_
        refine mw_if (P := (lg_cmp ((fc (st % 8192)) &&& (-70368677068801 : Int64)) w1) = 0) (a := 129) (b := 142) (fun _ => rfl) trivial (fun h8 => ?_) (fun h8 => ?_)
        · -- 129: (lg_cmp ((fc (st % 8192)) &&& (-70368677068801 : Int64)) w1) = 0
          refine mw_go mu_g250 (k := 3) (f1 := (133, [(8, .inl (nI i)), (7, .inl (nI id)), (0, .inr (.inr (some 113))), (1, .inr (.inr (U.2.2.2.1 129 10))), (2, .inl (nI n)), (3, .inl (nI ln)), (6, .inl (nI hd))], [.inl (nI ln), .inl (nI id), .inr (.inr (some 113))], Q3)) (C := []) rfl trivial ?_
          have hq26 : tnz (fc (st % 8192)) % 67108864 = tnz w1 % 67108864 := by rw [← lg_eq.mp h8]; exact (and_low (by decide)).symm
          obtain ⟨kf1, kf2, kf3⟩ := hW.head (fc := fc) (st := st) hq26
          have hb9 := hstz.2.1.1
          rw [kf3] at hb9
          refine mw_cI (fun _ => rfl) (show mu_is Q3 (some 113) 11 from (u3.1.1.is rfl)) (st_same (d := (d + 2)) (ln := ln) u3 d3 hsat hb9 hl8) (fun x9 H9 q9 => ?_)
          rcases q9 with ⟨hx1, hsame, hQe⟩ | ⟨hx1, hsame, hQe⟩
          · -- (1 : Int32)
            rw [hx1, hQe]
            refine mw_if (P := (1 : Int32) = 0) (a := 142) (b := 139) (fun _ => rfl) trivial (fun h10 => absurd h10 (by decide)) (fun h10 => ?_)
            refine mw_go mu_g250 (k := 1) (f1 := (141, [(8, .inl (nI i)), (7, .inl (nI id)), (0, .inr (.inr (some 113))), (1, .inr (.inr (U.2.2.2.1 129 10))), (2, .inl (nI n)), (3, .inl (nI ln)), (6, .inl (nI hd))], [.inl (nI id)], Q3)) (C := []) rfl trivial ?_
            exact mw_of (fun _ => mu_ret rfl trivial ⟨(nI id), Q3, rfl, id, rfl, u3, ht3, (by rw [d3]; exact ⟨ADD.old qf3 (fun a c h => hoo a c h) hS2 hid hpid hsat hstz hsz1 hW hq26 (fun k k1 k2 => hsame k k1 k2) hlb, hfbi, N, hS2.1.2.2.1, ⟨Nat.le_refl _, by omega⟩, hFK.same (show ((upL V1 117 0 w1).2.1 113 5) = (U.2.1 113 5) from (z1.i 113 5 rfl)) (show ((upL V1 117 0 w1).2.2.1 113 3) = (U.2.2.1 113 3) from (z1.a 113 3 rfl)) (show ((upL V1 117 0 w1).2.2.1 113 4) = (U.2.2.1 113 4) from (z1.a 113 4 rfl)) (z1.2.2.2.2.2 rfl)⟩)⟩)
          · -- (0 : Int32)
            rw [hx1, hQe]
            refine mw_if (P := (0 : Int32) = 0) (a := 142) (b := 139) (fun _ => rfl) trivial (fun h11 => ?_) (fun h11 => absurd (by decide) h11)
            refine mw_go mu_g250 (k := 2) (f1 := (145, [(8, .inl (nI i)), (7, .inl (nI id)), (0, .inr (.inr (some 113))), (1, .inr (.inr (U.2.2.2.1 129 10))), (2, .inl (nI n)), (3, .inl (nI ln)), (6, .inl (nI hd))], [.inl (nI id), .inr (.inr (some 113))], Q3)) (C := []) rfl trivial ?_
            refine mw_cL (fun _ => rfl) (show mu_is Q3 (some 113) 11 from (u3.1.1.is rfl)) (st_head (d := (d + 2)) u3 d3 hsat) (fun x12 H12 q12 => ?_)
            rw [q12.1, q12.2]
            refine mw_go mu_g250 (k := 9) (f1 := (163, [(8, .inl ((nI i) + 1)), (7, .inl ((((((fc (st % 8192)) &&& (70368677068800 : Int64)).toUInt64 >>> ((26 : Int32).toInt64.toUInt64 &&& Int64.toUInt64 63)).toInt64).toInt32) - (1 : Int32))), (0, .inr (.inr (some 113))), (1, .inr (.inr (U.2.2.2.1 129 10))), (2, .inl (nI n)), (3, .inl (nI ln)), (6, .inl (nI hd))], [], Q3)) (C := []) rfl trivial ?_
            rw [(show ((nI i) + 1) = (nI (i + 1)) from (nI_add i 1))]
            refine mw_go mu_g250 (k := 1) (f1 := (95, [(8, .inl (nI (i + 1))), (7, .inl ((((((fc (st % 8192)) &&& (70368677068800 : Int64)).toUInt64 >>> ((26 : Int32).toInt64.toUInt64 &&& Int64.toUInt64 63)).toInt64).toInt32) - (1 : Int32))), (0, .inr (.inr (some 113))), (1, .inr (.inr (U.2.2.2.1 129 10))), (2, .inl (nI n)), (3, .inl (nI ln)), (6, .inl (nI hd))], [], Q3)) (C := []) rfl trivial ?_
            exact mw_sub (by simp) (ihb (i + 1, ((((((fc (st % 8192)) &&& (70368677068800 : Int64)).toUInt64 >>> ((26 : Int32).toInt64.toUInt64 &&& Int64.toUInt64 63)).toInt64).toInt32) - (1 : Int32))) ⟨(show (i + 1) ≤ N from (by omega)), (show ((((((fc (st % 8192)) &&& (70368677068800 : Int64)).toUInt64 >>> ((26 : Int32).toInt64.toUInt64 &&& Int64.toUInt64 63)).toInt64).toInt32) - (1 : Int32)) = -1 ∨ ∃ id, id < N ∧ p id = true ∧ fb ≤ id ∧ ((((((fc (st % 8192)) &&& (70368677068800 : Int64)).toUInt64 >>> ((26 : Int32).toInt64.toUInt64 &&& Int64.toUInt64 63)).toInt64).toInt32) - (1 : Int32)) = nI id from (add_nextK hid hch1 hch2 (hFK.2 id st fc hid hfbi hsU) (by omega)))⟩ (by show N - (i + 1) < N - i; omega))
        · -- 142: not (lg_cmp ((fc (st % 8192)) &&& (-70368677068801 : Int64)) w1) = 0
          refine mw_go mu_g250 (k := 2) (f1 := (145, [(8, .inl (nI i)), (7, .inl (nI id)), (0, .inr (.inr (some 113))), (1, .inr (.inr (U.2.2.2.1 129 10))), (2, .inl (nI n)), (3, .inl (nI ln)), (6, .inl (nI hd))], [.inl (nI id), .inr (.inr (some 113))], Q3)) (C := []) rfl trivial ?_
          refine mw_cL (fun _ => rfl) (show mu_is Q3 (some 113) 11 from (u3.1.1.is rfl)) (st_head (d := (d + 2)) u3 d3 hsat) (fun x13 H13 q13 => ?_)
          rw [q13.1, q13.2]
          refine mw_go mu_g250 (k := 9) (f1 := (163, [(8, .inl ((nI i) + 1)), (7, .inl ((((((fc (st % 8192)) &&& (70368677068800 : Int64)).toUInt64 >>> ((26 : Int32).toInt64.toUInt64 &&& Int64.toUInt64 63)).toInt64).toInt32) - (1 : Int32))), (0, .inr (.inr (some 113))), (1, .inr (.inr (U.2.2.2.1 129 10))), (2, .inl (nI n)), (3, .inl (nI ln)), (6, .inl (nI hd))], [], Q3)) (C := []) rfl trivial ?_
          rw [(show ((nI i) + 1) = (nI (i + 1)) from (nI_add i 1))]
          refine mw_go mu_g250 (k := 1) (f1 := (95, [(8, .inl (nI (i + 1))), (7, .inl ((((((fc (st % 8192)) &&& (70368677068800 : Int64)).toUInt64 >>> ((26 : Int32).toInt64.toUInt64 &&& Int64.toUInt64 63)).toInt64).toInt32) - (1 : Int32))), (0, .inr (.inr (some 113))), (1, .inr (.inr (U.2.2.2.1 129 10))), (2, .inl (nI n)), (3, .inl (nI ln)), (6, .inl (nI hd))], [], Q3)) (C := []) rfl trivial ?_
          exact mw_sub (by simp) (ihb (i + 1, ((((((fc (st % 8192)) &&& (70368677068800 : Int64)).toUInt64 >>> ((26 : Int32).toInt64.toUInt64 &&& Int64.toUInt64 63)).toInt64).toInt32) - (1 : Int32))) ⟨(show (i + 1) ≤ N from (by omega)), (show ((((((fc (st % 8192)) &&& (70368677068800 : Int64)).toUInt64 >>> ((26 : Int32).toInt64.toUInt64 &&& Int64.toUInt64 63)).toInt64).toInt32) - (1 : Int32)) = -1 ∨ ∃ id, id < N ∧ p id = true ∧ fb ≤ id ∧ ((((((fc (st % 8192)) &&& (70368677068800 : Int64)).toUInt64 >>> ((26 : Int32).toInt64.toUInt64 &&& Int64.toUInt64 63)).toInt64).toInt32) - (1 : Int32)) = nI id from (add_nextK hid hch1 hch2 (hFK.2 id st fc hid hfbi hsU) (by omega)))⟩ (by show N - (i + 1) < N - i; omega))
    · -- 166: not (nI i) < (nI N)
      have nh4 : ¬ i < N := fun z => h4 (show nI i < nI N from (nI_ltI (by omega) (by omega)).mpr z)
      refine mw_go mu_g250 (k := 4) (f1 := (171, [(8, .inl (nI i)), (7, .inl v), (0, .inr (.inr (some 113))), (1, .inr (.inr (U.2.2.2.1 129 10))), (2, .inl (nI n)), (3, .inl (nI ln)), (6, .inl (nI hd))], [.inl (nI n), .inl (nI hd), .inl (nI ln), .inr (.inr (some 113))], Q3)) (C := []) rfl trivial ?_
      refine mw_cI (fun _ => rfl) (show mu_is Q3 (some 113) 11 from (u3.1.1.is rfl)) (st_keepK (d := d) (C := C) (us := us) (N := N) (ln := ln) (hd := hd) (n := n) u3 d3 hS2.1.1 hS2.1.2.1 hS2.1.2.2.1 hS2.2.1.1 hS2.2.1.2.1 (by have z := hS2.2.1.2.2; omega) hS2.2.2.1 hl8 hd4 (by omega)) (fun x14 Q14 q14 => ?_)
      obtain ⟨rfl, u14, r14, z14, fr, hfr, hkp⟩ := q14
      have ht14 : ur m C H Q14 := ht3.trans r14
      obtain ⟨V14, d14⟩ : ∃ V, ud m Q14 = V := ⟨_, rfl⟩
      rw [d14] at z14 hkp
      have qf14 : uq F254 U V14 := qf3.tr z14 rfl
      exact mw_of (fun _ => mu_ret rfl trivial ⟨(nI N), Q14, rfl, N, rfl, u14, ht14, (by rw [d14]; exact ⟨ADD.new qf3 (fun a c h => hoo a c h) hS2 z14 hfr hkp hW hN5 hhk hr hb hlb, hfN, N + 1, (by rcases hkp with y | y; (exact y.2.2.1.2); (exact y.2.2.1.2)), ⟨by omega, Nat.le_refl _⟩, (by have hF2 : FRK (upL V1 117 0 w1) N fb := hFK.same (show ((upL V1 117 0 w1).2.1 113 5) = (U.2.1 113 5) from (z1.i 113 5 rfl)) (show ((upL V1 117 0 w1).2.2.1 113 3) = (U.2.2.1 113 3) from (z1.a 113 3 rfl)) (show ((upL V1 117 0 w1).2.2.1 113 4) = (U.2.2.1 113 4) from (z1.a 113 4 rfl)) (z1.2.2.2.2.2 rfl); rcases hkp with y | y; (exact hF2.keep hS2 y.2 hfr y.1 hW hN5 hhk hfN); (exact hF2.none y.2 (by omega) hfN (by have y2 := hS2.2.1.2.2; omega) hS2.2.1.1))⟩)⟩)
  · -- 24: not (nI ln) < (nI y)
    have nh2 : ¬ ln < y := fun z => h2 (show nI ln < nI y from (nI_ltI (by omega) (by omega)).mpr z)
    refine mw_go mu_g250 (k := 3) (f1 := (30, [(6, .inl (nI y)), (4, .inr (.inl hs)), (0, .inr (.inr (some 113))), (1, .inr (.inr (U.2.2.2.1 129 10))), (2, .inl (nI n)), (3, .inl (nI ln))], [.inr (.inr (mu_r Q1 113 6)), .inr (.inl hs)], Q1)) (C := [mu_is Q1 (some 113) 11]) rfl (show mu_is Q1 (some 113) 11 from (u1.1.1.is rfl)) ?_
    rw [(u1.1.1.r (p := 113) (j := 6) (q := 117) rfl)]
    refine mw_go mu_g250 (k := 2) (f1 := (33, [(6, .inl (nI y)), (4, .inr (.inl hs)), (0, .inr (.inr (some 113))), (1, .inr (.inr (U.2.2.2.1 129 10))), (2, .inl (nI n)), (3, .inl (nI ln))], [.inr (.inl (mu_l Q1 117 (nI y).toNatClampNeg)), .inr (.inl hs)], Q1)) (C := [mu_isr Q1 (some 117) 102, vp_in (nI y) (mu_n Q1 117)]) rfl (show (mu_isr Q1 (some 117) 102) ∧ (vp_in (nI y) (mu_n Q1 117)) from ⟨((u1.1.1.a (p := 117) (x := (102, 257)) rfl).1).r, (by rw [show mu_n Q1 117 = 257 from (u1.1.1.a (p := 117) (x := (102, 257)) rfl).2]; exact vp_in_nI (n := y) (by omega) (by decide))⟩) ?_
    rw [(show (mu_l Q1 117 (nI y).toNatClampNeg) = (V1.2.2.2.2.1 117) y from (congrArg (mu_l Q1 117) (show (nI y).toNatClampNeg = y from nI_clamp (by omega))).trans ((ud_l (m := m) (p := 117) (i := y) d1 rfl).trans (congrFun (show V1.2.2.2.2.1 117 = (V1.2.2.2.2.1 117) from rfl) y)))]
    refine mw_go mu_g250 (k := 11) (f1 := (53, [(6, .inl ((nI y) + 1)), (4, .inr (.inl (((hs ^^^ ((V1.2.2.2.2.1 117) y)) * (-7046029254386353131 : Int64)) ^^^ ((((hs ^^^ ((V1.2.2.2.2.1 117) y)) * (-7046029254386353131 : Int64)).toUInt64 >>> ((29 : Int32).toInt64.toUInt64 &&& Int64.toUInt64 63)).toInt64)))), (0, .inr (.inr (some 113))), (1, .inr (.inr (U.2.2.2.1 129 10))), (2, .inl (nI n)), (3, .inl (nI ln))], [], Q1)) (C := []) rfl trivial ?_
    rw [(show ((nI y) + 1) = (nI (y + 1)) from (nI_add y 1))]
    refine mw_go mu_g250 (k := 1) (f1 := (18, [(6, .inl (nI (y + 1))), (4, .inr (.inl (((hs ^^^ ((V1.2.2.2.2.1 117) y)) * (-7046029254386353131 : Int64)) ^^^ ((((hs ^^^ ((V1.2.2.2.2.1 117) y)) * (-7046029254386353131 : Int64)).toUInt64 >>> ((29 : Int32).toInt64.toUInt64 &&& Int64.toUInt64 63)).toInt64)))), (0, .inr (.inr (some 113))), (1, .inr (.inr (U.2.2.2.1 129 10))), (2, .inl (nI n)), (3, .inl (nI ln))], [], Q1)) (C := []) rfl trivial ?_
    exact mw_sub (by simp) (iha (y + 1, (((hs ^^^ ((V1.2.2.2.2.1 117) y)) * (-7046029254386353131 : Int64)) ^^^ ((((hs ^^^ ((V1.2.2.2.2.1 117) y)) * (-7046029254386353131 : Int64)).toUInt64 >>> ((29 : Int32).toInt64.toUInt64 &&& Int64.toUInt64 63)).toInt64))) (show 1 ≤ (y + 1) ∧ (y + 1) ≤ ln + 1 from (by omega)) (by show ln + 1 - (y + 1) < ln + 1 - y; omega))
end AddsK
