/-! StringBuilder: new ones; the String that it gives -/
theorem bl_init0 {H : mu_H} {q : Nat} (iq : mu_is H (some q) 20) (h0 : mu_i H q 3 = 0) (hz : mu_z H < 1000000) : bld (mu_si (mu_sr (mu_nw H 101 16 16) q 0 (some (mu_z H))) q 1 0) q (mu_z H) [] ∧ mu_n (mu_si (mu_sr (mu_nw H 101 16 16) q 0 (some (mu_z H))) q 1 0) (mu_z H) = 16 ∧ kep (fun p => p = q) 1 16 H (mu_si (mu_sr (mu_nw H 101 16 16) q 0 (some (mu_z H))) q 1 0) := by
  have h1 : q < mu_z H := iq.2.1
  have h3 : mu_k H q = 20 := iq.2.2
  have hq : q ≠ mu_z H := by omega
  have en : mu_n (mu_si (mu_sr (mu_nw H 101 16 16) q 0 (some (mu_z H))) q 1 0) (mu_z H) = 16 := by
    show (if mu_z H = mu_z H then 16 else _) = 16
    rw [if_pos rfl]
  have ei : ∀ i, mu_i (mu_si (mu_sr (mu_nw H 101 16 16) q 0 (some (mu_z H))) q 1 0) (mu_z H) i = 0 := by
    intro i
    show (if mu_z H = q ∧ i = 1 then 0 else (if mu_z H = mu_z H then 0 else _)) = 0
    rw [if_neg (fun z => hq z.1.symm), if_pos rfl]
  refine ⟨⟨Nat.lt_succ_of_lt h1, Nat.lt_succ_self _, ?_, ?_, ?_, ?_, ?_, Nat.zero_le _, fun i hi => absurd hi (Nat.not_lt_zero i), fun i hi => ?_, by rw [en]; decide⟩, en, ?_⟩
  · show (if q = mu_z H then 101 else mu_k H q) = 20
    rw [if_neg hq]; exact h3
  · show (if q = q ∧ 0 = 0 then some (mu_z H) else _) = some (mu_z H)
    rw [if_pos ⟨rfl, rfl⟩]
  · show (if mu_z H = mu_z H then 101 else _) = 101
    rw [if_pos rfl]
  · show (if q = q ∧ 1 = 1 then (0 : Int32) else _) = 0
    rw [if_pos ⟨rfl, rfl⟩]
  · show (if q = q ∧ 3 = 1 then (0 : Int32) else (if q = mu_z H then 0 else mu_i H q 3)) = _
    rw [if_neg (fun z => by cases z.2), if_neg hq, h0]
    rfl
  · rw [ei]; decide +kernel
  · have k0 : kep (fun p => p = q) (0 + 1) (0 + 16) H (mu_nw H 101 16 16) := kep.rf.nw hz
    exact (k0.sr (Or.inl rfl)).si (Or.inl rfl)
theorem bl_init1 {d q : Nat} {H : mu_H} (iq : mu_is H (some q) 20) (hz : mu_z H + 1 ≤ 1000000) : mu_TV (mu_D (d + 1)) 523 [.inr (.inr (some q)), .inl (nI 16)] H (fun H1 => H1 = (mu_si (mu_sr (mu_nw H 101 16 16) q 0 (some (mu_z H))) q 1 0)) := by
  refine mu_meth (M := mu_m523) rfl rfl ?_
  refine mu_go mu_g523 (k := 1) (f1 := (1, [(0, .inr (.inr (some q))), (1, .inl (nI 16))], [.inr (.inr (some q))], H)) (C := []) rfl trivial ?_
  refine mu_obj rfl ⟨rfl, iq.2.1⟩ (by decide) ?_
  refine mu_go mu_g523 (k := 1) (f1 := (7, [(0, .inr (.inr (some q))), (1, .inl (nI 16))], [.inl (1 : Int32)], H)) (C := []) rfl trivial ?_
  refine mu_if (P := (1 : Int32) = 0) (a := 25) (b := 10) rfl trivial (fun h9 => absurd h9 (by decide)) (fun h9 => ?_)
  refine mu_go mu_g523 (k := 2) (f1 := (12, [(0, .inr (.inr (some q))), (1, .inl (nI 16))], [.inl (nI 16), .inr (.inr (some q))], H)) (C := []) rfl trivial ?_
  rw [show (nI 16) = (16 : Int32) from rfl]
  refine mu_go mu_g523 (k := 4) (f1 := (19, [(0, .inr (.inr (some q))), (1, .inl (16 : Int32))], [.inl (0 : Int32), .inr (.inr (some q))], (mu_sr (mu_nw H 101 (16 : Int32).toNatClampNeg (16 : Int32).toNatClampNeg) q 0 (some (mu_z H))))) (C := [¬ (16 : Int32) < 0, (16 : Int32).toNatClampNeg * ev_bytes 1 ≤ 536870912, mu_z H + 1 ≤ 1000000, mu_is (mu_nw H 101 (16 : Int32).toNatClampNeg (16 : Int32).toNatClampNeg) (some q) 20]) rfl (show (¬ (16 : Int32) < 0) ∧ ((16 : Int32).toNatClampNeg * ev_bytes 1 ≤ 536870912) ∧ (mu_z H + 1 ≤ 1000000) ∧ (mu_is (mu_nw H 101 (16 : Int32).toNatClampNeg (16 : Int32).toNatClampNeg) (some q) 20) from ⟨(by decide), (by decide), hz, ⟨rfl, Nat.lt_succ_of_lt iq.2.1, by show (if q = mu_z H then 101 else mu_k H q) = 20; rw [if_neg (by have := iq.2.1; have e : mu_p (some q) = q := rfl; omega)]; exact iq.2.2⟩⟩) ?_
  refine mu_putB rfl (by decide) rfl ⟨rfl, Nat.lt_succ_of_lt iq.2.1, by show (if q = mu_z H then 101 else mu_k H q) = 20; rw [if_neg (by have := iq.2.1; have e : mu_p (some q) = q := rfl; omega)]; exact iq.2.2⟩ ⟨by decide +kernel, by decide +kernel⟩ ?_
  show mu_HT _ mu_m523 (22, [(0, .inr (.inr (some q))), (1, .inl (16 : Int32))], [], (mu_si (mu_sr (mu_nw H 101 16 16) q 0 (some (mu_z H))) q 1 0)) _
  refine mu_go mu_g523 (k := 1) (f1 := (38, [(0, .inr (.inr (some q))), (1, .inl (16 : Int32))], [], (mu_si (mu_sr (mu_nw H 101 16 16) q 0 (some (mu_z H))) q 1 0))) (C := []) rfl trivial ?_
  exact mu_ret rfl trivial ⟨_, rfl, rfl⟩
/-- a new StringBuilder -/
theorem bl_init {d q : Nat} {H : mu_H} (iq : mu_is H (some q) 20) (hz : mu_z H + 1 ≤ 1000000) : mu_TV (mu_D (d + 2)) 522 [.inr (.inr (some q))] H (fun H1 => H1 = (mu_si (mu_sr (mu_nw H 101 16 16) q 0 (some (mu_z H))) q 1 0)) := by
  refine mu_meth (M := mu_m522) rfl rfl ?_
  refine mu_go mu_g522 (k := 2) (f1 := (3, [(0, .inr (.inr (some q)))], [.inl (16 : Int32), .inr (.inr (some q))], H)) (C := []) rfl trivial ?_
  refine mu_cVe rfl ⟨rfl, iq.2.1⟩ (bl_init1 iq hz) ?_
  exact mu_ret rfl trivial ⟨_, rfl, rfl⟩
theorem bl_value {d q a : Nat} {l : List Int32} {H : mu_H} (h : bld H q a l) : mu_TA (mu_D (d + 1)) 534 [.inr (.inr (some q))] H (fun x H1 => x = some a ∧ H1 = H) := by
  refine mu_meth (M := mu_m534) rfl rfl ?_
  refine mu_go mu_g534 (k := 2) (f1 := (4, [(0, .inr (.inr (some q)))], [.inr (.inr (mu_r H q 0))], H)) (C := [mu_is H (some q) 20]) rfl (show mu_is H (some q) 20 from h.iq) ?_
  exact mu_ret rfl trivial ⟨_, _, rfl, h.2.2.2.1, rfl⟩
theorem bl_len0 {d q a : Nat} {l : List Int32} {H : mu_H} (h : bld H q a l) : mu_TI (mu_D (d + 1)) 536 [.inr (.inr (some q))] H (fun x H1 => x = nI l.length ∧ H1 = H) := by
  refine mu_meth (M := mu_m536) rfl rfl ?_
  refine mu_go mu_g536 (k := 2) (f1 := (4, [(0, .inr (.inr (some q)))], [.inl (mu_i H q 3)], H)) (C := [mu_is H (some q) 20]) rfl (show mu_is H (some q) 20 from h.iq) ?_
  exact mu_ret rfl trivial ⟨_, _, rfl, h.2.2.2.2.2.2.1, rfl⟩
theorem bl_len {d q a : Nat} {l : List Int32} {H : mu_H} (h : bld H q a l) : mu_TI (mu_D (d + 2)) 535 [.inr (.inr (some q))] H (fun x H1 => x = nI l.length ∧ H1 = H) := by
  refine mu_meth (M := mu_m535) rfl rfl ?_
  refine mu_go mu_g535 (k := 1) (f1 := (1, [(0, .inr (.inr (some q)))], [.inr (.inr (some q))], H)) (C := []) rfl trivial ?_
  refine mu_cIe rfl ⟨rfl, h.1⟩ (bl_len0 h) ?_
  exact mu_ret rfl trivial ⟨_, _, rfl, rfl, rfl⟩
theorem bl_chk {d n : Nat} {H : mu_H} (hn : n < 2147483648) : mu_TV (mu_D (d + 1)) 539 [.inl 0, .inl (nI n)] H (fun H1 => H1 = H) := by
  refine mu_meth (M := mu_m539) rfl rfl ?_
  refine mu_go mu_g539 (k := 2) (f1 := (2, [(0, .inl (0 : Int32)), (1, .inl (nI n))], [.inl (0 : Int32), .inl (nI n)], H)) (C := []) rfl trivial ?_
  refine mu_if (P := (nI n) < (0 : Int32)) (a := 5) (b := 37) rfl trivial (fun h9 => absurd h9 (nI_pos (by omega))) (fun h9 => ?_)
  exact mu_ret rfl trivial ⟨_, rfl, rfl⟩
theorem mu_minR {a b : Nat} (h : b ≤ a) (ha : a < 268435456) : mu_min (nI a) (nI b) = nI b := by
  unfold mu_min
  by_cases e : nI b < nI a
  · rw [if_pos e]
  · rw [if_neg e]
    by_cases e2 : b < a
    · exact absurd (nI_lt e2 (by omega)) e
    · rw [show a = b by omega]
theorem bl_rangeB {d a n : Nat} {H : mu_H} (ia : mu_is H (some a) 101) (hby : ∀ i, i < mu_n H a → fits .byte (.int (mu_i H a i)) = true) (hn : n ≤ mu_n H a) (hl : mu_n H a < 268435456) (hz : mu_z H + 1 ≤ 1000000) : mu_TA (mu_D (d + 2)) 538 [.inr (.inr (some a)), .inl 0, .inl (nI n)] H (fun x H1 => x = some (mu_z H) ∧ mu_z H1 = mu_z H + 1 ∧ mu_k H1 (mu_z H) = 101 ∧ mu_n H1 (mu_z H) = n ∧ (∀ i, i < n → mu_i H1 (mu_z H) i = mu_i H a i) ∧ kep (fun _ => False) 1 n H H1) := by
  have hne : a ≠ mu_z H := by have := ia.2.1; have e : mu_p (some a) = a := rfl; omega
  have ik : mu_k H a = 101 := ia.2.2
  refine mu_meth (M := mu_m538) rfl rfl ?_
  refine mu_go mu_g538 (k := 2) (f1 := (2, [(0, .inr (.inr (some a))), (1, .inl (0 : Int32)), (2, .inl (nI n))], [.inl (nI n), .inl (0 : Int32)], H)) (C := []) rfl trivial ?_
  refine mu_cVe rfl trivial (bl_chk (by omega)) ?_
  refine mu_go mu_g538 (k := 3) (f1 := (8, [(0, .inr (.inr (some a))), (1, .inl (0 : Int32)), (2, .inl (nI n))], [.inl ((nI n) - (0 : Int32))], H)) (C := []) rfl trivial ?_
  rw [show nI n - (0 : Int32) = nI n from rI_sub (a := n) (b := 0) (Nat.zero_le _)]
  refine mu_go mu_g538 (k := 2) (f1 := (10, [(3, .inl (nI n)), (0, .inr (.inr (some a))), (1, .inl (0 : Int32)), (2, .inl (nI n))], [.inl (nI n)], H)) (C := []) rfl trivial ?_
  refine mu_go mu_g538 (k := 2) (f1 := (14, [(4, .inr (.inr (some (mu_z H)))), (3, .inl (nI n)), (0, .inr (.inr (some a))), (1, .inl (0 : Int32)), (2, .inl (nI n))], [], (mu_nw H 101 (nI n).toNatClampNeg (nI n).toNatClampNeg))) (C := [¬ (nI n) < 0, (nI n).toNatClampNeg * ev_bytes 1 ≤ 536870912, mu_z H + 1 ≤ 1000000]) rfl (show (¬ (nI n) < 0) ∧ ((nI n).toNatClampNeg * ev_bytes 1 ≤ 536870912) ∧ (mu_z H + 1 ≤ 1000000) from ⟨(nI_pos (by omega)), (by rw [nI_clamp (show n < 2 ^ 31 by omega)]; show n * 1 ≤ _; omega), hz⟩) ?_
  rw [nI_clamp (show n < 2 ^ 31 by omega)]
  refine mu_go mu_g538 (k := 9) (f1 := (24, [(4, .inr (.inr (some (mu_z H)))), (3, .inl (nI n)), (0, .inr (.inr (some a))), (1, .inl (0 : Int32)), (2, .inl (nI n))], [.inl (nI n), .inl ((Int32.ofNat (mu_n (mu_nw H 101 n n) a)) - (0 : Int32)), .inl (0 : Int32), .inr (.inr (some (mu_z H))), .inl (0 : Int32), .inr (.inr (some a))], (mu_nw H 101 n n))) (C := [mu_isr (mu_nw H 101 n n) (some a) (mu_k (mu_nw H 101 n n) a), 100 ≤ mu_k (mu_nw H 101 n n) a]) rfl (show (mu_isr (mu_nw H 101 n n) (some a) (mu_k (mu_nw H 101 n n) a)) ∧ (100 ≤ mu_k (mu_nw H 101 n n) a) from ⟨⟨rfl, Or.inl (Nat.lt_succ_of_lt ia.2.1), rfl⟩, (by show 100 ≤ (if a = mu_z H then 101 else mu_k H a); rw [if_neg hne, ik]; decide)⟩) ?_
  rw [show mu_n (mu_nw H 101 n n) a = mu_n H a from if_neg hne]
  show mu_HT _ mu_m538 (24, [(4, .inr (.inr (some (mu_z H)))), (3, .inl (nI n)), (0, .inr (.inr (some a))), (1, .inl (0 : Int32)), (2, .inl (nI n))], [.inl (nI n), .inl ((nI (mu_n H a)) - (0 : Int32)), .inl (0 : Int32), .inr (.inr (some (mu_z H))), .inl (0 : Int32), .inr (.inr (some a))], (mu_nw H 101 n n)) _
  rw [show nI (mu_n H a) - (0 : Int32) = nI (mu_n H a) from rI_sub (a := mu_n H a) (b := 0) (Nat.zero_le _)]
  refine mu_cIe rfl trivial (mu_min_ok (nI (mu_n H a)) (nI n)) ?_
  rw [show mu_min (nI (mu_n H a)) (nI n) = nI n from mu_minR hn hl]
  refine mu_copyI (t := 1) rfl (show mu_is _ _ 101 from ⟨rfl, Nat.lt_succ_of_lt ia.2.1, by show (if a = mu_z H then 101 else mu_k H a) = 101; rw [if_neg hne]; exact ia.2.2⟩) (show mu_is _ _ 101 from mu_is_new H 101 _ _) (by decide) (by decide) (by decide) (nI_pos (by omega)) ?_ ?_ (fun _ i hi => ?_) (by decide) ?_
  · rw [nI_clamp (show n < 2 ^ 31 by omega)]
    show 0 + n ≤ (if a = mu_z H then n else mu_n H a)
    rw [if_neg hne]; omega
  · rw [nI_clamp (show n < 2 ^ 31 by omega)]
    show 0 + n ≤ (if mu_z H = mu_z H then n else _)
    rw [if_pos rfl]; omega
  · rw [nI_clamp (show n < 2 ^ 31 by omega)] at hi
    show fits .byte (.int (if a = mu_z H then 0 else mu_i H a (0 + i))) = true
    rw [if_neg hne, Nat.zero_add]
    exact hby i (by omega)
  rw [nI_clamp (show n < 2 ^ 31 by omega)]
  show mu_HT _ mu_m538 (30, [(4, .inr (.inr (some (mu_z H)))), (3, .inl (nI n)), (0, .inr (.inr (some a))), (1, .inl (0 : Int32)), (2, .inl (nI n))], [], (mu_cpi (mu_nw H 101 n n) a 0 (mu_z H) 0 n)) _
  refine mu_go mu_g538 (k := 1) (f1 := (32, [(4, .inr (.inr (some (mu_z H)))), (3, .inl (nI n)), (0, .inr (.inr (some a))), (1, .inl (0 : Int32)), (2, .inl (nI n))], [.inr (.inr (some (mu_z H)))], (mu_cpi (mu_nw H 101 n n) a 0 (mu_z H) 0 n))) (C := []) rfl trivial ?_
  refine mu_ret rfl trivial ⟨_, _, rfl, rfl, rfl, if_pos rfl, if_pos rfl, fun i hi => ?_, ?_⟩
  · show (if mu_z H = mu_z H ∧ 0 ≤ i ∧ i < 0 + n then (if a = mu_z H then 0 else mu_i H a (0 + (i - 0))) else _) = _
    rw [if_pos ⟨rfl, Nat.zero_le _, by omega⟩, if_neg hne, Nat.zero_add, Nat.sub_zero]
  · exact ((kep.rf.nw (by omega)).cpi (Or.inr (by omega))).wk (fun _ _ z => z) (by omega) (by omega)
theorem bl_range {d a n : Nat} {H : mu_H} (ia : mu_is H (some a) 101) (hby : ∀ i, i < mu_n H a → fits .byte (.int (mu_i H a i)) = true) (hn : n ≤ mu_n H a) (hl : mu_n H a < 268435456) (hz : mu_z H + 1 ≤ 1000000) : mu_TA (mu_D (d + 3)) 537 [.inr (.inr (some a)), .inl 0, .inl (nI n)] H (fun x H1 => x = some (mu_z H) ∧ mu_z H1 = mu_z H + 1 ∧ mu_k H1 (mu_z H) = 101 ∧ mu_n H1 (mu_z H) = n ∧ (∀ i, i < n → mu_i H1 (mu_z H) i = mu_i H a i) ∧ kep (fun _ => False) 1 n H H1) := by
  have hne : a ≠ mu_z H := by have := ia.2.1; have e : mu_p (some a) = a := rfl; omega
  have ik : mu_k H a = 101 := ia.2.2
  refine mu_meth (M := mu_m537) rfl rfl ?_
  refine mu_go mu_g537 (k := 1) (f1 := (1, [(0, .inr (.inr (some a))), (1, .inl (0 : Int32)), (2, .inl (nI n))], [.inl (0 : Int32)], H)) (C := []) rfl trivial ?_
  refine mu_if (P := (0 : Int32) = 0) (a := 4) (b := 10) rfl trivial (fun h9 => ?_) (fun h9 => absurd rfl h9)
  refine mu_go mu_g537 (k := 3) (f1 := (7, [(0, .inr (.inr (some a))), (1, .inl (0 : Int32)), (2, .inl (nI n))], [.inl (Int32.ofNat (mu_n H a)), .inl (nI n)], H)) (C := [mu_isr H (some a) (mu_k H a), 100 ≤ mu_k H a]) rfl (show (mu_isr H (some a) (mu_k H a)) ∧ (100 ≤ mu_k H a) from ⟨⟨rfl, Or.inl ia.2.1, rfl⟩, (by rw [ik]; decide)⟩) ?_
  refine mu_if (P := (nI n) = (Int32.ofNat (mu_n H a))) (a := 17) (b := 10) rfl trivial (fun h8 => ?_) (fun h8 => ?_)
  · -- 17
    refine mu_go mu_g537 (k := 1) (f1 := (18, [(0, .inr (.inr (some a))), (1, .inl (0 : Int32)), (2, .inl (nI n))], [.inr (.inr (some a))], H)) (C := []) rfl trivial ?_
    have hnn : n = mu_n H a := rI_inj (by omega) (by omega) h8
    refine mu_clone rfl ia hby (by decide) hz ?_
    refine mu_castB rfl ⟨rfl, Nat.lt_succ_self _, if_pos rfl⟩ ?_
    refine mu_ret rfl trivial ⟨_, _, rfl, rfl, rfl, if_pos rfl, ?_, fun i hi => ?_, ?_⟩
    · show (if mu_z H = mu_z H then mu_n H a else _) = n
      rw [if_pos rfl]; exact hnn.symm
    · show (if mu_z H + 1 = mu_z H + 1 then (if a = mu_z H then 0 else mu_i H a i) else _) = _
      rw [if_pos rfl, if_neg hne]
    · have k0 : kep (fun _ => False) (0 + 1) (0 + mu_n H a) H (mu_nw H 101 (mu_n H a) (mu_n H a)) := kep.rf.nw (by omega)
      obtain ⟨x1, x2, x3, x6, x7⟩ := k0
      have x32 : mu_s (mu_cpy (mu_nw H 101 (mu_n H a) (mu_n H a)) a) ≤ mu_s H + (0 + mu_n H a) := x3.2.2
      refine ⟨x1, fun p hp hw => ?_, ⟨x3.1, x3.2.1, (show mu_s (mu_cpy (mu_nw H 101 (mu_n H a) (mu_n H a)) a) ≤ mu_s H + n by omega)⟩, x6, x7⟩
      refine (x2 p hp hw).tr ⟨rfl, rfl, fun j tc => ?_⟩
      unfold mu_f
      split
      · rfl
      · rfl
      · show Sum.inl (if p + 1 = mu_z H + 1 then _ else mu_i (mu_nw H 101 (mu_n H a) (mu_n H a)) p j) = _
        rw [if_neg (by omega)]
  · -- 10
    refine mu_go mu_g537 (k := 3) (f1 := (13, [(0, .inr (.inr (some a))), (1, .inl (0 : Int32)), (2, .inl (nI n))], [.inl (nI n), .inl (0 : Int32), .inr (.inr (some a))], H)) (C := []) rfl trivial ?_
    refine mu_cA rfl trivial (bl_rangeB ia hby hn hl hz) (fun x H1 hq => ?_)
    exact mu_ret rfl trivial ⟨_, _, rfl, hq⟩
theorem bl_str0 {d q a s : Nat} {l : List Int32} {H : mu_H} (h : bld H q a l) (is : mu_is H (some s) 19) (hl : mu_n H a < 268435456) (hz : mu_z H + 1 ≤ 1000000) : mu_TV (mu_D (d + 4)) 533 [.inr (.inr (some s)), .inr (.inr (some q)), .inr (.inr none)] H (fun H1 => sb H1 (some s) l ∧ sbv H1 (some s) = some (mu_z H) ∧ kep (fun p => p = s) 1 l.length H H1) := by
  have hsa : s ≠ a := fun e => by
    have h1 : mu_k H s = 19 := is.2.2
    rw [e, h.2.2.2.2.1] at h1
    cases h1
  have hby8 : ∀ i, i < mu_n (mu_si H s 1 0) a → fits .byte (.int (mu_i (mu_si H s 1 0) a i)) = true := fun i hi => by
    rw [mu_i_si, if_neg (fun z => hsa z.1.symm)]
    exact h.2.2.2.2.2.2.2.2.2.1 i hi
  have h8 := h.2.2.2.2.2.2.2.1
  refine mu_meth (M := mu_m533) rfl rfl ?_
  refine mu_go mu_g533 (k := 1) (f1 := (1, [(0, .inr (.inr (some s))), (1, .inr (.inr (some q))), (2, .inr (.inr none))], [.inr (.inr (some s))], H)) (C := []) rfl trivial ?_
  refine mu_obj rfl ⟨rfl, is.2.1⟩ (by decide) ?_
  refine mu_go mu_g533 (k := 1) (f1 := (5, [(0, .inr (.inr (some s))), (1, .inr (.inr (some q))), (2, .inr (.inr none))], [.inr (.inr (some q))], H)) (C := []) rfl trivial ?_
  refine mu_cAe rfl (show mu_is H (some q) 20 from h.iq) (bl_value h) ?_
  refine mu_go mu_g533 (k := 2) (f1 := (10, [(3, .inr (.inr (some a))), (0, .inr (.inr (some s))), (1, .inr (.inr (some q))), (2, .inr (.inr none))], [.inr (.inr (some q))], H)) (C := []) rfl trivial ?_
  refine mu_cIe rfl (show mu_is H (some q) 20 from h.iq) (bl_len h) ?_
  refine mu_go mu_g533 (k := 2) (f1 := (16, [(4, .inl (nI l.length)), (3, .inr (.inr (some a))), (0, .inr (.inr (some s))), (1, .inr (.inr (some q))), (2, .inr (.inr none))], [.inr (.inr (some q))], H)) (C := []) rfl trivial ?_
  refine mu_cIe rfl (show mu_is H (some q) 20 from h.iq) (bl_latin h.iq h.2.2.2.2.2.1) ?_
  refine mu_if (P := (1 : Int32) = 0) (a := 41) (b := 22) rfl trivial (fun h9 => absurd h9 (by decide)) (fun h9 => ?_)
  refine mu_go mu_g533 (k := 2) (f1 := (24, [(4, .inl (nI l.length)), (3, .inr (.inr (some a))), (0, .inr (.inr (some s))), (1, .inr (.inr (some q))), (2, .inr (.inr none))], [.inl (0 : Int32), .inr (.inr (some s))], H)) (C := []) rfl trivial ?_
  refine mu_putB rfl (by decide) rfl is ⟨by decide +kernel, by decide +kernel⟩ ?_
  show mu_HT _ mu_m533 (27, [(4, .inl (nI l.length)), (3, .inr (.inr (some a))), (0, .inr (.inr (some s))), (1, .inr (.inr (some q))), (2, .inr (.inr none))], [], (mu_si H s 1 0)) _
  refine mu_go mu_g533 (k := 4) (f1 := (32, [(4, .inl (nI l.length)), (3, .inr (.inr (some a))), (0, .inr (.inr (some s))), (1, .inr (.inr (some q))), (2, .inr (.inr none))], [.inl (nI l.length), .inl (0 : Int32), .inr (.inr (some a)), .inr (.inr (some s))], (mu_si H s 1 0))) (C := []) rfl trivial ?_
  refine mu_cA rfl trivial (bl_range (H := mu_si H s 1 0) (a := a) (n := l.length) h.ia hby8 h8 hl hz) (fun x H1 hq => ?_)
  obtain ⟨rfl, hz1, hk1, hn1, hi1, hkp⟩ := hq
  show mu_HT _ mu_m533 (35, [(4, .inl (nI l.length)), (3, .inr (.inr (some a))), (0, .inr (.inr (some s))), (1, .inr (.inr (some q))), (2, .inr (.inr none))], [.inr (.inr (some (mu_z H))), .inr (.inr (some s))], H1) _
  refine mu_go mu_g533 (k := 2) (f1 := (97, [(4, .inl (nI l.length)), (3, .inr (.inr (some a))), (0, .inr (.inr (some s))), (1, .inr (.inr (some q))), (2, .inr (.inr none))], [], (mu_sr H1 s 0 (some (mu_z H))))) (C := [mu_is H1 (some s) 19]) rfl (show mu_is H1 (some s) 19 from ⟨rfl, by show s < mu_z H1; rw [hz1]; exact Nat.lt_succ_of_lt is.2.1, (hkp.k (p := s) (Or.inl is.2.1) id).trans is.2.2⟩) ?_
  have hsz : s < mu_z H := is.2.1
  have hzz : mu_z (mu_si H s 1 0) = mu_z H := rfl
  have ev : sbv (mu_sr H1 s 0 (some (mu_z H))) (some s) = some (mu_z H) := by
    show (if 1000000 ≤ s then _ else (if s = s ∧ 0 = 0 then some (mu_z H) else _)) = _
    rw [if_neg (by omega)]
    exact if_pos ⟨rfl, rfl⟩
  refine mu_ret rfl trivial ⟨_, rfl, ⟨Or.inr ⟨rfl, by show s < mu_z H1; omega, (hkp.k (p := s) (Or.inl is.2.1) id).trans is.2.2⟩, ?_, ?_⟩, ev, ?_⟩
  · show (if 1000000 ≤ s then 0 else mu_i H1 s 1) = 0
    rw [if_neg (by omega), hkp.i (p := s) (Or.inl is.2.1) id, mu_i_si, if_pos ⟨rfl, rfl⟩]
  · rw [ev]
    refine ⟨⟨rfl, Or.inl (by show mu_z H < mu_z H1; omega), hk1⟩, hn1, fun i hi => ?_⟩
    show mu_i H1 (mu_z H) i = _
    refine (show mu_i H1 (mu_z H) i = mu_i (mu_si H s 1 0) a i from hi1 i hi).trans ?_
    rw [mu_i_si, if_neg (fun z => hsa z.1.symm)]
    exact h.2.2.2.2.2.2.2.2.1 i hi
  · have k1 : kep (fun p => p = s) 0 0 H (mu_si H s 1 0) := kep.rf.si (Or.inl rfl)
    exact ((k1.tr hkp (W := fun p => p = s) (fun p _ z => z.elim id (fun q => q.elim))).sr (Or.inl rfl)).wk (fun _ _ z => z) (by omega) (by omega)
theorem bl_str1 {d q a s : Nat} {l : List Int32} {H : mu_H} (h : bld H q a l) (is : mu_is H (some s) 19) (hl : mu_n H a < 268435456) (hz : mu_z H + 1 ≤ 1000000) : mu_TV (mu_D (d + 5)) 532 [.inr (.inr (some s)), .inr (.inr (some q))] H (fun H1 => sb H1 (some s) l ∧ sbv H1 (some s) = some (mu_z H) ∧ kep (fun p => p = s) 1 l.length H H1) := by
  refine mu_meth (M := mu_m532) rfl rfl ?_
  refine mu_go mu_g532 (k := 3) (f1 := (3, [(0, .inr (.inr (some s))), (1, .inr (.inr (some q)))], [.inr (.inr none), .inr (.inr (some q)), .inr (.inr (some s))], H)) (C := []) rfl trivial ?_
  refine mu_cV rfl ⟨rfl, is.2.1⟩ (bl_str0 h is hl hz) (fun H1 hq => ?_)
  exact mu_ret rfl trivial ⟨_, rfl, hq⟩
/-- StringBuilder.toString -/
theorem bl_toString {d q a : Nat} {l : List Int32} {H : mu_H} (h : bld H q a l) (hl : mu_n H a < 268435456) (hz : mu_z H + 2 ≤ 1000000) : mu_TA (mu_D (d + 6)) 531 [.inr (.inr (some q))] H (fun x H1 => x = some (mu_z H) ∧ sb H1 (some (mu_z H)) l ∧ sbv H1 (some (mu_z H)) = some (mu_z H + 1) ∧ kep (fun _ => False) 2 (4 + l.length) H H1) := by
  obtain ⟨h1, h2, h3, h4, h5, h6, h7, h8, h9, h10, h11⟩ := (show bld H q a l from h)
  have nq : q ≠ mu_z H := by omega
  have na : a ≠ mu_z H := by omega
  have eq1 : ∀ i, mu_i (mu_nw H 19 0 4) q i = mu_i H q i := fun i => if_neg nq
  have eq2 : ∀ i, mu_i (mu_nw H 19 0 4) a i = mu_i H a i := fun i => if_neg na
  have eq3 : mu_n (mu_nw H 19 0 4) a = mu_n H a := if_neg na
  have hb2 : bld (mu_nw H 19 0 4) q a l := ⟨Nat.lt_succ_of_lt h1, Nat.lt_succ_of_lt h2, (if_neg nq).trans h3, (if_neg nq).trans h4, (if_neg na).trans h5, (eq1 1).trans h6, (eq1 3).trans h7, by rw [eq3]; exact h8, fun i hi => (eq2 i).trans (h9 i hi), fun i hi => by rw [eq2]; exact h10 i (by rw [eq3] at hi; exact hi), by rw [eq3]; exact h11⟩
  have hl2 : mu_n (mu_nw H 19 0 4) a < 268435456 := by rw [eq3]; exact hl
  refine mu_meth (M := mu_m531) rfl rfl ?_
  refine mu_newo rfl (by decide) (by omega) ?_
  show mu_HT _ mu_m531 (3, [(0, .inr (.inr (some q)))], [.inr (.inr (some (mu_z H)))], (mu_nw H 19 0 4)) _
  refine mu_go mu_g531 (k := 2) (f1 := (5, [(0, .inr (.inr (some q)))], [.inr (.inr (some q)), .inr (.inr (some (mu_z H))), .inr (.inr (some (mu_z H)))], (mu_nw H 19 0 4))) (C := []) rfl trivial ?_
  refine mu_cV rfl ⟨rfl, Nat.lt_succ_self _⟩ (bl_str1 (H := mu_nw H 19 0 4) (s := mu_z H) hb2 (mu_is_new H 19 0 4) hl2 (by rw [mu_z_nw]; omega)) (fun H1 hq => ?_)
  refine mu_ret rfl trivial ⟨_, _, rfl, rfl, hq.1, hq.2.1, ?_⟩
  have k0 : kep (fun _ => False) (0 + 1) (0 + 4) H (mu_nw H 19 0 4) := kep.rf.nw (by omega)
  exact (k0.tr hq.2.2 (W := fun _ => False) (fun p hp z => z.elim id (fun e => by omega))).wk (fun _ _ z => z) (by omega) (by omega)
