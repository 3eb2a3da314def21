/-! StringBuilder: new, append, toString -/
/-- java/lang/AbstractStringBuilder.isLatin1()Z -/
abbrev mu_m529 : ev_M := (1, (some .boolean), [], ev_b529)
theorem mu_g529 : mu_good mu_m529 := mu_goodk ev_k529
/-- java/lang/StringLatin1.canEncode(C)Z -/
abbrev mu_m530 : ev_M := (1, (some .boolean), [], ev_b530)
theorem mu_g530 : mu_good mu_m530 := mu_goodk ev_k530
/-- jdk/internal/util/ArraysSupport.newLength(III)I -/
abbrev mu_m528 : ev_M := (4, (some .int), [], ev_b528)
theorem mu_g528 : mu_good mu_m528 := mu_goodk ev_k528
/-- java/lang/AbstractStringBuilder.newCapacity(I)I -/
abbrev mu_m527 : ev_M := (6, (some .int), [], ev_b527)
theorem mu_g527 : mu_good mu_m527 := mu_goodk ev_k527
/-- java/lang/AbstractStringBuilder.ensureCapacityInternal(I)V -/
abbrev mu_m526 : ev_M := (3, none, [], ev_b526)
theorem mu_g526 : mu_good mu_m526 := mu_goodk ev_k526
/-- java/lang/AbstractStringBuilder.append(C)Ljava/lang/AbstractStringBuilder; -/
abbrev mu_m525 : ev_M := (2, (some (.object "java/lang/AbstractStringBuilder")), [], ev_b525)
theorem mu_g525 : mu_good mu_m525 := mu_goodk ev_k525
/-- java/lang/StringBuilder.append(C)Ljava/lang/StringBuilder; -/
abbrev mu_m524 : ev_M := (2, (some (.object "java/lang/StringBuilder")), [], ev_b524)
theorem mu_g524 : mu_good mu_m524 := mu_goodk ev_k524
/-- java/lang/AbstractStringBuilder.<init>(I)V -/
abbrev mu_m523 : ev_M := (2, none, [], ev_b523)
theorem mu_g523 : mu_good mu_m523 := mu_goodk ev_k523
/-- java/lang/StringBuilder.<init>()V -/
abbrev mu_m522 : ev_M := (1, none, [], ev_b522)
theorem mu_g522 : mu_good mu_m522 := mu_goodk ev_k522
/-- java/lang/AbstractStringBuilder.getValue()[B -/
abbrev mu_m534 : ev_M := (1, (some (.array .byte)), [], ev_b534)
theorem mu_g534 : mu_good mu_m534 := mu_goodk ev_k534
/-- java/lang/AbstractStringBuilder.length()I -/
abbrev mu_m536 : ev_M := (1, (some .int), [], ev_b536)
theorem mu_g536 : mu_good mu_m536 := mu_goodk ev_k536
/-- java/lang/StringBuilder.length()I -/
abbrev mu_m535 : ev_M := (1, (some .int), [], ev_b535)
theorem mu_g535 : mu_good mu_m535 := mu_goodk ev_k535
/-- java/util/Arrays.checkLength(II)V -/
abbrev mu_m539 : ev_M := (2, none, [], ev_b539)
theorem mu_g539 : mu_good mu_m539 := mu_goodk ev_k539
/-- java/util/Arrays.copyOfRangeByte([BII)[B -/
abbrev mu_m538 : ev_M := (5, (some (.array .byte)), [], ev_b538)
theorem mu_g538 : mu_good mu_m538 := mu_goodk ev_k538
/-- java/util/Arrays.copyOfRange([BII)[B -/
abbrev mu_m537 : ev_M := (3, (some (.array .byte)), [], ev_b537)
theorem mu_g537 : mu_good mu_m537 := mu_goodk ev_k537
/-- java/lang/String.<init>(Ljava/lang/AbstractStringBuilder;Ljava/lang/Void;)V -/
abbrev mu_m533 : ev_M := (5, none, [], ev_b533)
theorem mu_g533 : mu_good mu_m533 := mu_goodk ev_k533
/-- java/lang/String.<init>(Ljava/lang/StringBuilder;)V -/
abbrev mu_m532 : ev_M := (2, none, [], ev_b532)
theorem mu_g532 : mu_good mu_m532 := mu_goodk ev_k532
/-- java/lang/StringBuilder.toString()Ljava/lang/String; -/
abbrev mu_m531 : ev_M := (1, (some (.object "java/lang/String")), [], ev_b531)
theorem mu_g531 : mu_good mu_m531 := mu_goodk ev_k531
/-- a StringBuilder at q, its bytes at a: the letters l -/
def bld (H : mu_H) (q a : Nat) (l : List Int32) : Prop := q < mu_z H ∧ a < mu_z H ∧ mu_k H q = 20 ∧ mu_r H q 0 = some a ∧ mu_k H a = 101 ∧ mu_i H q 1 = 0 ∧ mu_i H q 3 = nI l.length ∧ l.length ≤ mu_n H a ∧ (∀ i, i < l.length → mu_i H a i = l.getD i 0) ∧ (∀ i, i < mu_n H a → fits .byte (.int (mu_i H a i)) = true) ∧ 16 ≤ mu_n H a
theorem bld.iq {H : mu_H} {q a : Nat} {l : List Int32} (h : bld H q a l) : mu_is H (some q) 20 := ⟨rfl, h.1, h.2.2.1⟩
theorem bld.ia {H : mu_H} {q a : Nat} {l : List Int32} (h : bld H q a l) : mu_is H (some a) 101 := ⟨rfl, h.2.1, h.2.2.2.2.1⟩
theorem bld.ne {H : mu_H} {q a : Nat} {l : List Int32} (h : bld H q a l) : q ≠ a := fun e => by
  have h1 := h.2.2.1
  rw [e, h.2.2.2.2.1] at h1
  cases h1
theorem bl_latin {d q : Nat} {H : mu_H} (iq : mu_is H (some q) 20) (ic : mu_i H q 1 = 0) : mu_TI (mu_D (d + 1)) 529 [.inr (.inr (some q))] H (fun x H1 => x = 1 ∧ H1 = H) := by
  refine mu_meth (M := mu_m529) rfl rfl ?_
  refine mu_go mu_g529 (k := 1) (f1 := (3, [(0, .inr (.inr (some q)))], [.inl (1 : Int32)], H)) (C := []) rfl trivial ?_
  refine mu_if (P := (1 : Int32) = 0) (a := 17) (b := 6) rfl trivial (fun h => absurd h (by decide)) (fun h => ?_)
  refine mu_go mu_g529 (k := 2) (f1 := (10, [(0, .inr (.inr (some q)))], [.inl (mu_i H q 1)], H)) (C := [mu_is H (some q) 20]) rfl (show mu_is H (some q) 20 from iq) ?_
  rw [ic]
  refine mu_if (P := (0 : Int32) = 0) (a := 13) (b := 17) rfl trivial (fun h => ?_) (fun h => absurd rfl h)
  refine mu_go mu_g529 (k := 2) (f1 := (18, [(0, .inr (.inr (some q)))], [.inl (1 : Int32)], H)) (C := []) rfl trivial ?_
  exact mu_ret rfl (Or.inr rfl) ⟨_, _, rfl, rfl, rfl⟩
theorem bl_can {d : Nat} {c : Int32} {H : mu_H} (hc : ¬ 255 < c) : mu_TI (mu_D (d + 1)) 530 [.inl c] H (fun x H1 => x = 1 ∧ H1 = H) := by
  refine mu_meth (M := mu_m530) rfl rfl ?_
  refine mu_go mu_g530 (k := 2) (f1 := (4, [(0, .inl c)], [.inl (255 : Int32), .inl c], H)) (C := []) rfl trivial ?_
  refine mu_if (P := (255 : Int32) < c) (a := 11) (b := 7) rfl trivial (fun h => absurd h hc) (fun h => ?_)
  refine mu_go mu_g530 (k := 2) (f1 := (12, [(0, .inl c)], [.inl (1 : Int32)], H)) (C := []) rfl trivial ?_
  exact mu_ret rfl (Or.inr rfl) ⟨_, _, rfl, rfl, rfl⟩
theorem bl_newLength {d n g p : Nat} {H : mu_H} (hg : g < p) (hn : n + p < 1073741824) : mu_TI (mu_D (d + 2)) 528 [.inl (nI n), .inl (nI g), .inl (nI p)] H (fun x H1 => x = nI (n + p) ∧ H1 = H) := by
  refine mu_meth (M := mu_m528) rfl rfl ?_
  refine mu_go mu_g528 (k := 3) (f1 := (3, [(0, .inl (nI n)), (1, .inl (nI g)), (2, .inl (nI p))], [.inl (nI p), .inl (nI g), .inl (nI n)], H)) (C := []) rfl trivial ?_
  refine mu_cIe rfl trivial (mu_max_ok (nI g) (nI p)) ?_
  rw [show mu_max (nI g) (nI p) = nI p from if_pos (nI_lt (by omega) (by omega))]
  refine mu_go mu_g528 (k := 4) (f1 := (10, [(3, .inl ((nI n) + (nI p))), (0, .inl (nI n)), (1, .inl (nI g)), (2, .inl (nI p))], [.inl ((nI n) + (nI p)), .inl (0 : Int32)], H)) (C := []) rfl trivial ?_
  rw [nI_add]
  refine mu_if (P := (0 : Int32) < (nI (n + p))) (a := 13) (b := 21) rfl trivial (fun h => ?_) (fun h => absurd (nI_lt (show 0 < n + p by omega) (by omega)) h)
  refine mu_go mu_g528 (k := 2) (f1 := (16, [(3, .inl (nI (n + p))), (0, .inl (nI n)), (1, .inl (nI g)), (2, .inl (nI p))], [.inl (2147483639 : Int32), .inl (nI (n + p))], H)) (C := []) rfl trivial ?_
  refine mu_if (P := (2147483639 : Int32) < (nI (n + p))) (a := 21) (b := 19) rfl trivial (fun h2 => absurd h2 (by rw [Int32.lt_iff_toInt_lt, show (nI (n + p)).toInt = ((n + p : Nat) : Int) from Int32.toInt_ofNat_of_lt (by omega)]; show ¬ (2147483639 : Int) < _; omega)) (fun h2 => ?_)
  refine mu_go mu_g528 (k := 1) (f1 := (20, [(3, .inl (nI (n + p))), (0, .inl (nI n)), (1, .inl (nI g)), (2, .inl (nI p))], [.inl (nI (n + p))], H)) (C := []) rfl trivial ?_
  exact mu_ret rfl trivial ⟨_, _, rfl, rfl, rfl⟩
theorem bl_newCap {d q a : Nat} {l : List Int32} {H : mu_H} (h : bld H q a l) (hn : mu_n H a < 268435456) : mu_TI (mu_D (d + 3)) 527 [.inr (.inr (some q)), .inl (nI (mu_n H a + 1))] H (fun x H1 => x = nI (2 * mu_n H a + 2) ∧ H1 = H) := by
  refine mu_meth (M := mu_m527) rfl rfl ?_
  refine mu_go mu_g527 (k := 21) (f1 := (29, [(4, .inl (((nI (mu_n H a + 1)) <<< ((mu_i H q 1) &&& 31)) - (Int32.ofNat (mu_n H (mu_p (mu_r H q 0)))))), (3, .inl ((nI (mu_n H a + 1)) <<< ((mu_i H q 1) &&& 31))), (2, .inl (Int32.ofNat (mu_n H (mu_p (mu_r H q 0))))), (0, .inr (.inr (some q))), (1, .inl (nI (mu_n H a + 1)))], [.inl ((Int32.ofNat (mu_n H (mu_p (mu_r H q 0)))) + ((2 : Int32) <<< ((mu_i H q 1) &&& 31))), .inl (((nI (mu_n H a + 1)) <<< ((mu_i H q 1) &&& 31)) - (Int32.ofNat (mu_n H (mu_p (mu_r H q 0))))), .inl (Int32.ofNat (mu_n H (mu_p (mu_r H q 0))))], H)) (C := [mu_is H (some q) 20, mu_isr H (mu_r H q 0) (mu_k H (mu_p (mu_r H q 0))), 100 ≤ mu_k H (mu_p (mu_r H q 0)), mu_is H (some q) 20, mu_is H (some q) 20]) rfl (show (mu_is H (some q) 20) ∧ (mu_isr H (mu_r H q 0) (mu_k H (mu_p (mu_r H q 0)))) ∧ (100 ≤ mu_k H (mu_p (mu_r H q 0))) ∧ (mu_is H (some q) 20) ∧ (mu_is H (some q) 20) from ⟨h.iq, (by rw [h.2.2.2.1]; exact (show mu_isr H (some a) (mu_k H a) from ⟨rfl, Or.inl h.2.1, rfl⟩)), (by rw [h.2.2.2.1]; show 100 ≤ mu_k H a; rw [h.2.2.2.2.1]; decide), h.iq, h.iq⟩) ?_
  rw [h.2.2.2.1, h.2.2.2.2.2.1, mu_shl0, mu_shl0]
  show mu_HT _ mu_m527 (29, [(4, .inl ((nI (mu_n H a + 1)) - (nI (mu_n H a)))), (3, .inl (nI (mu_n H a + 1))), (2, .inl (nI (mu_n H a))), (0, .inr (.inr (some q))), (1, .inl (nI (mu_n H a + 1)))], [.inl ((nI (mu_n H a)) + (2 : Int32)), .inl ((nI (mu_n H a + 1)) - (nI (mu_n H a))), .inl (nI (mu_n H a))], H) _
  rw [rI_sub (show mu_n H a ≤ mu_n H a + 1 by omega), Nat.add_sub_cancel_left]
  rw [show nI (mu_n H a) + (2 : Int32) = nI (mu_n H a + 2) from nI_add _ 2]
  show mu_HT _ mu_m527 (29, [(4, .inl (nI 1)), (3, .inl (nI (mu_n H a + 1))), (2, .inl (nI (mu_n H a))), (0, .inr (.inr (some q))), (1, .inl (nI (mu_n H a + 1)))], [.inl (nI (mu_n H a + 2)), .inl (nI 1), .inl (nI (mu_n H a))], H) _
  refine mu_cIe rfl trivial (bl_newLength (n := mu_n H a) (g := 1) (p := mu_n H a + 2) (by omega) (by omega)) ?_
  refine mu_go mu_g527 (k := 3) (f1 := (38, [(5, .inl (nI (mu_n H a + (mu_n H a + 2)))), (4, .inl (nI 1)), (3, .inl (nI (mu_n H a + 1))), (2, .inl (nI (mu_n H a))), (0, .inr (.inr (some q))), (1, .inl (nI (mu_n H a + 1)))], [.inl (2147483647 : Int32), .inl (nI (mu_n H a + (mu_n H a + 2)))], H)) (C := []) rfl trivial ?_
  refine mu_if (P := (nI (mu_n H a + (mu_n H a + 2))) = (2147483647 : Int32)) (a := 41) (b := 51) rfl trivial (fun h9 => absurd h9 (fun e => by have := congrArg Int32.toInt e; rw [show (nI (mu_n H a + (mu_n H a + 2))).toInt = ((mu_n H a + (mu_n H a + 2) : Nat) : Int) from Int32.toInt_ofNat_of_lt (by omega)] at this; have e2 : ((2147483647 : Int32)).toInt = 2147483647 := (by decide); omega)) (fun h9 => ?_)
  refine mu_go mu_g527 (k := 4) (f1 := (58, [(5, .inl (nI (mu_n H a + (mu_n H a + 2)))), (4, .inl (nI 1)), (3, .inl (nI (mu_n H a + 1))), (2, .inl (nI (mu_n H a))), (0, .inr (.inr (some q))), (1, .inl (nI (mu_n H a + 1)))], [.inl ((nI (mu_n H a + (mu_n H a + 2))) >>> ((mu_i H q 1) &&& 31))], H)) (C := [mu_is H (some q) 20]) rfl (show mu_is H (some q) 20 from h.iq) ?_
  rw [h.2.2.2.2.2.1, mu_shr0]
  exact mu_ret rfl trivial ⟨_, _, rfl, by rw [show mu_n H a + (mu_n H a + 2) = 2 * mu_n H a + 2 by omega], rfl⟩
theorem bl_ensure {d q a : Nat} {l : List Int32} {H : mu_H} (h : bld H q a l) (hn : mu_n H a < 67108000) (hz : mu_z H + 1 ≤ 1000000) : mu_TV (mu_D (d + 4)) 526 [.inr (.inr (some q)), .inl (nI (l.length + 1))] H (fun H1 => H1 = if l.length < mu_n H a then H else (mu_sr (mu_cpi (mu_nw H 101 (2 * mu_n H a + 2) (2 * mu_n H a + 2)) a 0 (mu_z H) 0 (mu_n H a)) q 0 (some (mu_z H)))) := by
  refine mu_meth (M := mu_m526) rfl rfl ?_
  refine mu_go mu_g526 (k := 10) (f1 := (14, [(2, .inl ((Int32.ofNat (mu_n H (mu_p (mu_r H q 0)))) >>> ((mu_i H q 1) &&& 31))), (0, .inr (.inr (some q))), (1, .inl (nI (l.length + 1)))], [.inl ((nI (l.length + 1)) - ((Int32.ofNat (mu_n H (mu_p (mu_r H q 0)))) >>> ((mu_i H q 1) &&& 31)))], H)) (C := [mu_is H (some q) 20, mu_isr H (mu_r H q 0) (mu_k H (mu_p (mu_r H q 0))), 100 ≤ mu_k H (mu_p (mu_r H q 0)), mu_is H (some q) 20]) rfl (show (mu_is H (some q) 20) ∧ (mu_isr H (mu_r H q 0) (mu_k H (mu_p (mu_r H q 0)))) ∧ (100 ≤ mu_k H (mu_p (mu_r H q 0))) ∧ (mu_is H (some q) 20) from ⟨h.iq, (by rw [h.2.2.2.1]; exact (show mu_isr H (some a) (mu_k H a) from ⟨rfl, Or.inl h.2.1, rfl⟩)), (by rw [h.2.2.2.1]; show 100 ≤ mu_k H a; rw [h.2.2.2.2.1]; decide), h.iq⟩) ?_
  rw [h.2.2.2.1, h.2.2.2.2.2.1, mu_shr0]
  show mu_HT _ mu_m526 (14, [(2, .inl (nI (mu_n H a))), (0, .inr (.inr (some q))), (1, .inl (nI (l.length + 1)))], [.inl ((nI (l.length + 1)) - (nI (mu_n H a)))], H) _
  refine mu_if (P := 0 < ((nI (l.length + 1)) - (nI (mu_n H a)))) (a := 17) (b := 38) rfl trivial (fun h9 => ?_) (fun h9 => ?_)
  · -- 17
    have hlt : mu_n H a = l.length := by
      have h8 := h.2.2.2.2.2.2.2.1
      have := (rI_gt (by omega) (by omega)).mp h9
      omega
    refine mu_go mu_g526 (k := 5) (f1 := (24, [(2, .inl (nI (mu_n H a))), (0, .inr (.inr (some q))), (1, .inl (nI (l.length + 1)))], [.inl (nI (l.length + 1)), .inr (.inr (some q)), .inr (.inr (mu_r H q 0)), .inr (.inr (some q))], H)) (C := [mu_is H (some q) 20]) rfl (show mu_is H (some q) 20 from h.iq) ?_
    rw [h.2.2.2.1]
    rw [show nI (l.length + 1) = nI (mu_n H a + 1) by rw [hlt]]
    refine mu_cIe rfl (show mu_is H (some q) 20 from h.iq) (bl_newCap h (by omega)) ?_
    refine mu_go mu_g526 (k := 3) (f1 := (32, [(2, .inl (nI (mu_n H a))), (0, .inr (.inr (some q))), (1, .inl (nI (mu_n H a + 1)))], [.inl ((nI (2 * mu_n H a + 2)) <<< ((mu_i H q 1) &&& 31)), .inr (.inr (some a)), .inr (.inr (some q))], H)) (C := [mu_is H (some q) 20]) rfl (show mu_is H (some q) 20 from h.iq) ?_
    rw [h.2.2.2.2.2.1, mu_shl0]
    refine mu_cAe rfl trivial (mu_copyOfB_ok (N := 2 * mu_n H a + 2) h.ia h.2.2.2.2.2.2.2.2.2.1 (show mu_n H a < _ by omega) (by omega) hz) ?_
    refine mu_go mu_g526 (k := 1) (f1 := (38, [(2, .inl (nI (mu_n H a))), (0, .inr (.inr (some q))), (1, .inl (nI (mu_n H a + 1)))], [], (mu_sr (mu_cpi (mu_nw H 101 (2 * mu_n H a + 2) (2 * mu_n H a + 2)) a 0 (mu_z H) 0 (mu_n H a)) q 0 (some (mu_z H))))) (C := [mu_is (mu_cpi (mu_nw H 101 (2 * mu_n H a + 2) (2 * mu_n H a + 2)) a 0 (mu_z H) 0 (mu_n H a)) (some q) 20]) rfl (show mu_is (mu_cpi (mu_nw H 101 (2 * mu_n H a + 2) (2 * mu_n H a + 2)) a 0 (mu_z H) 0 (mu_n H a)) (some q) 20 from ⟨rfl, Nat.lt_succ_of_lt h.1, by show (if q = mu_z H then 101 else mu_k H q) = 20; rw [if_neg (by have := h.1; omega)]; exact h.2.2.1⟩) ?_
    exact mu_ret rfl trivial ⟨_, rfl, (if_neg (by omega)).symm⟩
  · -- 38
    exact mu_ret rfl trivial ⟨_, rfl, (if_pos (by
      have h8 := h.2.2.2.2.2.2.2.1
      by_cases e : l.length < mu_n H a
      · exact e
      · exact absurd ((rI_gt (by omega) (by omega)).mpr (show mu_n H a < l.length + 1 by omega)) h9)).symm⟩
theorem bld.grow {H : mu_H} {q a : Nat} {l : List Int32} (h : bld H q a l) : bld (mu_sr (mu_cpi (mu_nw H 101 (2 * mu_n H a + 2) (2 * mu_n H a + 2)) a 0 (mu_z H) 0 (mu_n H a)) q 0 (some (mu_z H))) q (mu_z H) l ∧ mu_n (mu_sr (mu_cpi (mu_nw H 101 (2 * mu_n H a + 2) (2 * mu_n H a + 2)) a 0 (mu_z H) 0 (mu_n H a)) q 0 (some (mu_z H))) (mu_z H) = 2 * mu_n H a + 2 := by
  obtain ⟨h1, h2, h3, h4, h5, h6, h7, h8, h9, h10, h11⟩ := h
  have hq : q ≠ mu_z H := by omega
  have ha : a ≠ mu_z H := by omega
  have ei : ∀ i, mu_i (mu_sr (mu_cpi (mu_nw H 101 (2 * mu_n H a + 2) (2 * mu_n H a + 2)) a 0 (mu_z H) 0 (mu_n H a)) q 0 (some (mu_z H))) (mu_z H) i = if i < mu_n H a then mu_i H a i else 0 := by
    intro i
    show (if mu_z H = mu_z H ∧ 0 ≤ i ∧ i < 0 + mu_n H a then (if a = mu_z H then 0 else mu_i H a (0 + (i - 0))) else (if mu_z H = mu_z H then 0 else _)) = _
    by_cases hi : i < mu_n H a
    · rw [if_pos ⟨rfl, Nat.zero_le _, by omega⟩, if_neg ha, if_pos hi, Nat.zero_add, Nat.sub_zero]
    · rw [if_neg (fun z => hi (by omega)), if_pos rfl, if_neg hi]
  have en : mu_n (mu_sr (mu_cpi (mu_nw H 101 (2 * mu_n H a + 2) (2 * mu_n H a + 2)) a 0 (mu_z H) 0 (mu_n H a)) q 0 (some (mu_z H))) (mu_z H) = 2 * mu_n H a + 2 := by
    show (if mu_z H = mu_z H then 2 * mu_n H a + 2 else _) = _
    rw [if_pos rfl]
  refine ⟨⟨Nat.lt_succ_of_lt h1, Nat.lt_succ_self _, ?_, ?_, ?_, ?_, ?_, by rw [en]; omega, fun i hi => ?_, fun i hi => ?_, by rw [en]; omega⟩, en⟩
  · show (if q = mu_z H then 101 else mu_k H q) = 20
    rw [if_neg hq]; exact h3
  · show (if q = q ∧ 0 = 0 then some (mu_z H) else _) = some (mu_z H)
    rw [if_pos ⟨rfl, rfl⟩]
  · show (if mu_z H = mu_z H then 101 else _) = 101
    rw [if_pos rfl]
  · show (if q = mu_z H ∧ _ then _ else (if q = mu_z H then 0 else mu_i H q 1)) = 0
    rw [if_neg (fun z => hq z.1), if_neg hq]; exact h6
  · show (if q = mu_z H ∧ _ then _ else (if q = mu_z H then 0 else mu_i H q 3)) = _
    rw [if_neg (fun z => hq z.1), if_neg hq]; exact h7
  · rw [ei, if_pos (by omega)]
    exact h9 i hi
  · rw [ei]
    by_cases hi : i < mu_n H a
    · rw [if_pos hi]; exact h10 i hi
    · rw [if_neg hi]; decide +kernel
theorem bld.app {H : mu_H} {q a : Nat} {l : List Int32} {c : Int32} (h : bld H q a l) (hr : l.length < mu_n H a) (hf : fits .byte (.int c) = true) : bld (mu_si (mu_si H q 3 (nI (l.length + 1))) a l.length c) q a (l ++ [c]) := by
  have hne := h.ne
  obtain ⟨h1, h2, h3, h4, h5, h6, h7, h8, h9, h10, h11⟩ := h
  have ei : ∀ i, mu_i (mu_si (mu_si H q 3 (nI (l.length + 1))) a l.length c) a i = if i = l.length then c else mu_i H a i := by
    intro i
    rw [mu_i_si, mu_i_si]
    by_cases e : i = l.length
    · rw [if_pos ⟨rfl, e⟩, if_pos e]
    · rw [if_neg (fun z => e z.2), if_neg e, if_neg (fun z => hne z.1.symm)]
  refine ⟨h1, h2, h3, h4, h5, ?_, ?_, ?_, fun i hi => ?_, fun i hi => ?_, h11⟩
  · rw [mu_i_si, if_neg (fun z => hne z.1), mu_i_si, if_neg (fun z => by cases z.2)]
    exact h6
  · rw [mu_i_si, if_neg (fun z => hne z.1), mu_i_si, if_pos ⟨rfl, rfl⟩, List.length_append]
    rfl
  · rw [List.length_append]
    show l.length + 1 ≤ mu_n H a
    omega
  · rw [List.length_append] at hi
    have hi : i < l.length + 1 := hi
    rw [ei]
    by_cases e : i = l.length
    · rw [if_pos e, e, List.getD_eq_getElem?_getD, List.getElem?_append_right (Nat.le_refl _), Nat.sub_self]
      rfl
    · rw [if_neg e, h9 i (by omega), List.getD_eq_getElem?_getD, List.getD_eq_getElem?_getD, List.getElem?_append_left (by omega)]
  · rw [ei]
    by_cases e : i = l.length
    · rw [if_pos e]; exact hf
    · rw [if_neg e]; exact h10 i hi
theorem bl_app0 {d q a : Nat} {l : List Int32} {c : Int32} {H : mu_H} (h : bld H q a l) (hr : l.length < mu_n H a) (hn : mu_n H a < 67108000 * 4) (hb : c.toInt8.toInt32 = c) (hc : ¬ 255 < c) : mu_HT (mu_D (d + 1)) mu_m525 (10, [(0, .inr (.inr (some q))), (1, .inl c)], [], H) (fun r => ∃ x H1, r = (.inl (some (.inr (.inr x))), H1) ∧ x = some q ∧ H1 = mu_si (mu_si H q 3 (nI (l.length + 1))) a l.length c) := by
  refine mu_go mu_g525 (k := 1) (f1 := (11, [(0, .inr (.inr (some q))), (1, .inl c)], [.inr (.inr (some q))], H)) (C := []) rfl trivial ?_
  refine mu_cIe rfl (show mu_is H (some q) 20 from h.iq) (bl_latin h.iq h.2.2.2.2.2.1) ?_
  refine mu_if (P := (1 : Int32) = 0) (a := 45) (b := 17) rfl trivial (fun h9 => absurd h9 (by decide)) (fun h9 => ?_)
  refine mu_go mu_g525 (k := 1) (f1 := (18, [(0, .inr (.inr (some q))), (1, .inl c)], [.inl c], H)) (C := []) rfl trivial ?_
  refine mu_cIe rfl trivial (bl_can hc) ?_
  refine mu_if (P := (1 : Int32) = 0) (a := 45) (b := 24) rfl trivial (fun h9 => absurd h9 (by decide)) (fun h9 => ?_)
  refine mu_go mu_g525 (k := 6) (f1 := (34, [(0, .inr (.inr (some q))), (1, .inl c)], [.inl (mu_i H q 3), .inr (.inr (some q)), .inl (mu_i H q 3), .inr (.inr (mu_r H q 0))], H)) (C := [mu_is H (some q) 20, mu_is H (some q) 20]) rfl (show (mu_is H (some q) 20) ∧ (mu_is H (some q) 20) from ⟨h.iq, h.iq⟩) ?_
  rw [h.2.2.2.1, h.2.2.2.2.2.2.1]
  refine mu_go mu_g525 (k := 5) (f1 := (41, [(0, .inr (.inr (some q))), (1, .inl c)], [.inl (c.toInt8.toInt32), .inl (nI l.length), .inr (.inr (some a))], (mu_si H q 3 ((nI l.length) + (1 : Int32))))) (C := [mu_is H (some q) 20]) rfl (show mu_is H (some q) 20 from h.iq) ?_
  rw [← nI_succ, hb]
  refine mu_go mu_g525 (k := 3) (f1 := (76, [(0, .inr (.inr (some q))), (1, .inl c)], [.inr (.inr (some q))], (mu_si (mu_si H q 3 (nI (l.length + 1))) a (nI l.length).toNatClampNeg (vp_nar .byte c)))) (C := [mu_is (mu_si H q 3 (nI (l.length + 1))) (some a) 101, vp_in (nI l.length) (mu_n (mu_si H q 3 (nI (l.length + 1))) a)]) rfl (show (mu_is (mu_si H q 3 (nI (l.length + 1))) (some a) 101) ∧ (vp_in (nI l.length) (mu_n (mu_si H q 3 (nI (l.length + 1))) a)) from ⟨h.ia, vp_in_nI (show l.length < mu_n H a from hr) (show mu_n H a < _ by omega)⟩) ?_
  rw [nI_clamp (show l.length < 2 ^ 31 by omega), show vp_nar .byte c = c from hb]
  exact mu_ret rfl trivial ⟨_, _, rfl, rfl, rfl⟩
theorem bl_append0 {d q a : Nat} {l : List Int32} {c : Int32} {H : mu_H} (h : bld H q a l) (hn : mu_n H a < 67108000) (hz : mu_z H + 1 ≤ 1000000) (hb : c.toInt8.toInt32 = c) (hc : ¬ 255 < c) (hf : fits .byte (.int c) = true) : mu_TA (mu_D (d + 5)) 525 [.inr (.inr (some q)), .inl c] H (fun x H1 => x = some q ∧ ∃ a1, bld H1 q a1 (l ++ [c]) ∧ ((a1 = a ∧ l.length < mu_n H a ∧ mu_n H1 a = mu_n H a ∧ kep (fun p => p = q ∨ p = a) 0 0 H H1) ∨ (a1 = mu_z H ∧ l.length = mu_n H a ∧ mu_n H1 a1 = 2 * mu_n H a + 2 ∧ kep (fun p => p = q ∨ p = a) 1 (2 * mu_n H a + 2) H H1))) := by
  refine mu_meth (M := mu_m525) rfl rfl ?_
  refine mu_go mu_g525 (k := 5) (f1 := (7, [(0, .inr (.inr (some q))), (1, .inl c)], [.inl ((mu_i H q 3) + (1 : Int32)), .inr (.inr (some q))], H)) (C := [mu_is H (some q) 20]) rfl (show mu_is H (some q) 20 from h.iq) ?_
  rw [h.2.2.2.2.2.2.1, ← nI_succ]
  refine mu_cVe rfl (show mu_is H (some q) 20 from h.iq) (bl_ensure h hn hz) ?_
  by_cases hr : l.length < mu_n H a
  · rw [if_pos hr]
    exact (bl_app0 h hr (by omega) hb hc).imp (fun r hq => by
      obtain ⟨x, H1, e1, e2, e3⟩ := hq
      subst e3
      refine ⟨x, _, e1, e2, a, h.app hr hf, Or.inl ⟨rfl, hr, rfl, (kep.rf.si (Or.inl (Or.inl rfl))).si (Or.inl (Or.inr rfl))⟩⟩)
  · rw [if_neg hr]
    obtain ⟨hg, en⟩ := h.grow
    have h8 := h.2.2.2.2.2.2.2.1
    exact (bl_app0 hg (by rw [en]; omega) (by rw [en]; omega) hb hc).imp (fun r hq => by
      obtain ⟨x, H1, e1, e2, e3⟩ := hq
      subst e3
      refine ⟨x, _, e1, e2, mu_z H, hg.app (by rw [en]; omega) hf, Or.inr ⟨rfl, by omega, en, ?_⟩⟩
      have hzn : ¬ (mu_z H < mu_z H ∨ 1000000 ≤ mu_z H) := by omega
      have k0 : kep (fun p => p = q ∨ p = a) (0 + 1) (0 + (2 * mu_n H a + 2)) H (mu_nw H 101 (2 * mu_n H a + 2) (2 * mu_n H a + 2)) := kep.rf.nw (by omega)
      exact ((((k0.cpi (Or.inr hzn)).sr (Or.inl (Or.inl rfl))).si (Or.inl (Or.inl rfl))).si (Or.inr hzn)).wk (fun _ _ z => z) (by omega) (by omega))
/-- StringBuilder.append of a letter -/
theorem bl_append {d q a : Nat} {l : List Int32} {c : Int32} {H : mu_H} (h : bld H q a l) (hn : mu_n H a < 67108000) (hz : mu_z H + 1 ≤ 1000000) (hb : c.toInt8.toInt32 = c) (hc : ¬ 255 < c) (hf : fits .byte (.int c) = true) : mu_TA (mu_D (d + 6)) 524 [.inr (.inr (some q)), .inl c] H (fun x H1 => x = some q ∧ ∃ a1, bld H1 q a1 (l ++ [c]) ∧ ((a1 = a ∧ l.length < mu_n H a ∧ mu_n H1 a = mu_n H a ∧ kep (fun p => p = q ∨ p = a) 0 0 H H1) ∨ (a1 = mu_z H ∧ l.length = mu_n H a ∧ mu_n H1 a1 = 2 * mu_n H a + 2 ∧ kep (fun p => p = q ∨ p = a) 1 (2 * mu_n H a + 2) H H1))) := by
  refine mu_meth (M := mu_m524) rfl rfl ?_
  refine mu_go mu_g524 (k := 2) (f1 := (2, [(0, .inr (.inr (some q))), (1, .inl c)], [.inl c, .inr (.inr (some q))], H)) (C := []) rfl trivial ?_
  refine mu_cA rfl ⟨rfl, h.1⟩ (bl_append0 h hn hz hb hc hf) (fun x H1 hq => ?_)
  refine mu_go mu_g524 (k := 2) (f1 := (7, [(0, .inr (.inr (some q))), (1, .inl c)], [.inr (.inr (some q))], H1)) (C := []) rfl trivial ?_
  exact mu_ret rfl trivial ⟨_, _, rfl, rfl, hq.2⟩
