/-! The reference: sets of bits -/
/-- PathProverModel$Bits.has(I)Z -/
abbrev mu_m512 : ev_M := (2, (some .boolean), [], ev_b512)
theorem mu_g512 : mu_good mu_m512 := mu_goodk ev_k512
/-- PathProverModel$Bits.put(IZ)V -/
abbrev mu_m513 : ev_M := (3, none, [], ev_b513)
theorem mu_g513 : mu_good mu_m513 := mu_goodk ev_k513
def b3z (x : Int32) (b : Nat) : Bool := x.toBitVec.getLsbD b
section B3
variable {x y : Int32} {b k : Nat}
theorem b3_and : b3z (x &&& y) b = (b3z x b && b3z y b) := by unfold b3z; rw [Int32.toBitVec_and, BitVec.getLsbD_and]
theorem b3_xor : b3z (x ^^^ y) b = (b3z x b ^^ b3z y b) := by unfold b3z; rw [Int32.toBitVec_xor, BitVec.getLsbD_xor]
theorem b3_0 : b3z 0 b = false := by
  unfold b3z
  show (0#32).getLsbD b = false
  exact BitVec.getLsbD_zero
theorem b3_ext (h : ∀ b, b < 32 → b3z x b = b3z y b) : x = y := by
  refine Int32.toBitVec_inj.mp ?_
  exact BitVec.eq_of_getLsbD_eq (fun i hi => h i hi)
theorem b3_1 : b3z 1 b = decide (b = 0) := by
  unfold b3z
  show (1#32).getLsbD b = _
  rw [BitVec.getLsbD_one]
  by_cases e : b = 0
  · subst e; rfl
  · rw [decide_eq_false e]; simp
theorem sh31 (hk : k < 2147483648) : ((nI k) &&& 31).toBitVec.toNat = k % 32 := by
  have h2 : (nI k).toBitVec.toNat = k := by
    have : (nI k).toBitVec.toInt = (k : Int) := rI_int hk
    rw [BitVec.toInt_eq_toNat_cond] at this
    split at this <;> omega
  rw [Int32.toBitVec_and, BitVec.toNat_and, h2]
  exact Nat.and_two_pow_sub_one_eq_mod k 5
theorem sh31e (hk : k < 2147483648) : (nI k) &&& 31 = nI (k % 32) := by
  refine Int32.toBitVec_inj.mp (BitVec.eq_of_toNat_eq ?_)
  rw [sh31 hk]
  have h2 : (nI (k % 32)).toBitVec.toNat = k % 32 := by
    have : (nI (k % 32)).toBitVec.toInt = ((k % 32 : Nat) : Int) := rI_int (by omega)
    rw [BitVec.toInt_eq_toNat_cond] at this
    split at this <;> omega
  exact h2.symm
theorem b3_ask (hk : k < 32) : ((x.toUInt32 >>> ((nI k).toUInt32 &&& Int32.toUInt32 31)).toInt32 &&& 1) = if b3z x k = true then 1 else 0 := by
  have h1 := sh31 (k := k) (by omega)
  rw [Nat.mod_eq_of_lt hk] at h1
  have e1 : ((nI k).toUInt32 &&& Int32.toUInt32 31).toNat % 32 = k := by
    have : ((nI k).toUInt32 &&& Int32.toUInt32 31).toNat = k := h1
    rw [this]; omega
  have hb : ∀ b, b3z (x.toUInt32 >>> ((nI k).toUInt32 &&& Int32.toUInt32 31)).toInt32 b = b3z x (k + b) := fun b => by
    unfold b3z
    show ((x.toUInt32 >>> ((nI k).toUInt32 &&& Int32.toUInt32 31)).toBitVec).getLsbD b = _
    have e3 : (x.toUInt32 >>> ((nI k).toUInt32 &&& Int32.toUInt32 31)).toBitVec = x.toBitVec >>> k := by
      refine BitVec.eq_of_toNat_eq ?_
      rw [BitVec.toNat_ushiftRight]
      show (x.toUInt32 >>> ((nI k).toUInt32 &&& Int32.toUInt32 31)).toNat = _
      rw [UInt32.toNat_shiftRight, e1]
      rfl
    rw [e3, BitVec.getLsbD_ushiftRight]
  refine b3_ext (fun b hb2 => ?_)
  rw [b3_and, hb, b3_1]
  by_cases e : b = 0
  · subst e
    rw [Nat.add_zero, decide_eq_true rfl, Bool.and_true]
    cases hh : b3z x k
    · rw [if_neg (by decide), b3_0]
    · rw [if_pos rfl, b3_1]; rfl
  · rw [decide_eq_false e, Bool.and_false]
    cases hh : b3z x k
    · rw [if_neg (by decide), b3_0]
    · rw [if_pos rfl, b3_1, decide_eq_false e]
theorem b3_one : ∀ q : Fin 32, ∀ b : Fin 32, b3z ((1 : Int32) <<< ((nI q.1) &&& 31)) b.1 = decide (b.1 = q.1) := by decide +kernel
theorem rI_shr5 {a : Nat} (h : a < 2147483648) : nI a >>> ((5 : Int32) &&& 31) = nI (a / 32) := by
  refine Int32.toInt_inj.mp ?_
  have hd : a / 2 ^ 5 < 2147483648 := Nat.lt_of_le_of_lt (Nat.div_le_self _ _) h
  rw [show a / 32 = a / 2 ^ 5 from rfl, rI_int hd]
  show ((nI a >>> ((5 : Int32) &&& 31)).toBitVec).toInt = _
  rw [Int32.toBitVec_shiftRight, show ((5 : Int32) &&& 31).toBitVec.smod 32 = BitVec.ofNat 32 5 by decide, BitVec.sshiftRight_eq', BitVec.toInt_sshiftRight]
  have e1 : (nI a).toBitVec.toInt = (a : Int) := rI_int h
  rw [e1, BitVec.toNat_ofNat, Nat.mod_eq_of_lt (by decide), Int.shiftRight_eq_div_pow]
  rfl
end B3
/-- a set of bits at q, its row r -/
def btr (H : mu_H) (q r : Nat) : Prop := mu_is H (some q) 14 ∧ mu_r H q 0 = some r ∧ mu_is H (some r) 100 ∧ mu_n H r = 512
/-- s is in the set -/
def bst (H : mu_H) (r s : Nat) : Bool := b3z (mu_i H r (s / 32)) (s % 32)
theorem rp_has {H : mu_H} {d q r s : Nat} (hq : btr H q r) (hs : s < 16384) : mu_TI (mu_D (d + 1)) 512 [.inr (.inr (some q)), .inl (nI s)] H (fun x H1 => x = bI (bst H r s) ∧ H1 = H) := by
  refine mu_meth (M := mu_m512) rfl rfl ?_
  refine mw_ht (mu_fn_of (show [0, 1].Nodup by decide)) ?_
  obtain ⟨c1, c2, c3, c4⟩ := hq
  have s5 := rI_shr5 (a := s) (by omega)
  have s31 := sh31e (k := s) (by omega)
  have s512 : s / 32 < 512 := by omega
  have sc : (nI (s / 32)).toNatClampNeg = s / 32 := nI_clamp (by omega)
  have wx : mu_i H r (nI (s / 32)).toNatClampNeg = mu_i H r (s / 32) := by rw [sc]
  have ask := b3_ask (x := mu_i H r (s / 32)) (k := s % 32) (by omega)
  refine mw_go mu_g512 (k := 2) (f1 := (4, [(0, .inr (.inr (some q))), (1, .inl (nI s))], [.inr (.inr (mu_r H q 0))], H)) (C := [mu_is H (some q) 14]) rfl (show mu_is H (some q) 14 from c1) ?_
  refine mw_fr (f' := (4, [(0, .inr (.inr (some q))), (1, .inl (nI s))], [.inr (.inr (some r))], H)) (by first | (rw [c2]; done) | (rw [c2]; rfl)) ?_
  refine mw_go mu_g512 (k := 3) (f1 := (7, [(0, .inr (.inr (some q))), (1, .inl (nI s))], [.inl ((nI s) >>> ((5 : Int32) &&& 31)), .inr (.inr (some r))], H)) (C := []) rfl trivial ?_
  refine mw_fr (f' := (7, [(0, .inr (.inr (some q))), (1, .inl (nI s))], [.inl (nI (s / 32)), .inr (.inr (some r))], H)) (by first | (rw [s5]; done) | (rw [s5]; rfl)) ?_
  refine mw_go mu_g512 (k := 1) (f1 := (8, [(0, .inr (.inr (some q))), (1, .inl (nI s))], [.inl (mu_i H r (nI (s / 32)).toNatClampNeg)], H)) (C := [mu_isr H (some r) 100, vp_in (nI (s / 32)) (mu_n H r)]) rfl (show (mu_isr H (some r) 100) ∧ (vp_in (nI (s / 32)) (mu_n H r)) from ⟨⟨rfl, Or.inl c3.2.1, c3.2.2⟩, (vp_in_nI (by rw [c4]; exact s512) (by rw [c4]; decide))⟩) ?_
  refine mw_fr (f' := (8, [(0, .inr (.inr (some q))), (1, .inl (nI s))], [.inl (mu_i H r (s / 32))], H)) (by first | (rw [wx]; done) | (rw [wx]; rfl)) ?_
  refine mw_go mu_g512 (k := 3) (f1 := (12, [(0, .inr (.inr (some q))), (1, .inl (nI s))], [.inl ((nI s) &&& (31 : Int32)), .inl (mu_i H r (s / 32))], H)) (C := []) rfl trivial ?_
  refine mw_fr (f' := (12, [(0, .inr (.inr (some q))), (1, .inl (nI s))], [.inl (nI (s % 32)), .inl (mu_i H r (s / 32))], H)) (by first | (rw [s31]; done) | (rw [s31]; rfl)) ?_
  refine mw_go mu_g512 (k := 4) (f1 := (16, [(0, .inr (.inr (some q))), (1, .inl (nI s))], [.inl (1 : Int32), .inl ((((mu_i H r (s / 32)).toUInt32 >>> ((nI (s % 32)).toUInt32 &&& Int32.toUInt32 31)).toInt32) &&& (1 : Int32))], H)) (C := []) rfl trivial ?_
  refine mw_if (P := ((((mu_i H r (s / 32)).toUInt32 >>> ((nI (s % 32)).toUInt32 &&& Int32.toUInt32 31)).toInt32) &&& (1 : Int32)) = (1 : Int32)) (a := 19) (b := 23) (fun _ => rfl) trivial (fun h1 => ?_) (fun h1 => ?_)
  · -- 19
    refine mw_go mu_g512 (k := 2) (f1 := (24, [(0, .inr (.inr (some q))), (1, .inl (nI s))], [.inl (1 : Int32)], H)) (C := []) rfl trivial ?_
    have z := h1
    rw [ask] at z
    exact mw_of (fun _ => mu_ret rfl (Or.inr rfl) ⟨_, _, rfl, (by unfold bst; cases g : b3z (mu_i H r (s / 32)) (s % 32) with | true => rfl | false => rw [g] at z; exact absurd z (by decide)), rfl⟩)
  · -- 23
    refine mw_go mu_g512 (k := 1) (f1 := (24, [(0, .inr (.inr (some q))), (1, .inl (nI s))], [.inl (0 : Int32)], H)) (C := []) rfl trivial ?_
    have z := h1
    rw [ask] at z
    exact mw_of (fun _ => mu_ret rfl (Or.inl rfl) ⟨_, _, rfl, (by unfold bst; cases g : b3z (mu_i H r (s / 32)) (s % 32) with | false => rfl | true => rw [g] at z; exact absurd rfl z), rfl⟩)
/-- s is put into the set, or taken out -/
def bwr (r s : Nat) (v : Bool) (H H1 : mu_H) : Prop := (H1 = H ∨ ∃ w, H1 = mu_si H r (s / 32) w) ∧ ∀ t, t < 16384 → bst H1 r t = if t = s then v else bst H r t
theorem bwr_no {H : mu_H} {r s : Nat} {v : Bool} (h : bst H r s = v) : bwr r s v H H := ⟨Or.inl rfl, fun t _ => by
  by_cases e : t = s
  · subst e; rw [if_pos rfl]; exact h
  · rw [if_neg e]⟩
theorem bwr_ye {H : mu_H} {r s : Nat} {v : Bool} (h : ¬ bst H r s = v) : bwr r s v H (mu_si H r (s / 32) ((mu_i H r (s / 32)) ^^^ ((1 : Int32) <<< ((nI (s % 32)) &&& 31)))) := ⟨Or.inr ⟨_, rfl⟩, fun t _ => by
  unfold bst
  rw [mu_i_si]
  by_cases e : t / 32 = s / 32
  · rw [if_pos ⟨rfl, e⟩, b3_xor, b3_one ⟨s % 32, Nat.mod_lt _ (by decide)⟩ ⟨t % 32, Nat.mod_lt _ (by decide)⟩]
    by_cases e2 : t = s
    · subst e2
      rw [if_pos rfl, decide_eq_true rfl]
      unfold bst at h
      revert h
      cases b3z (mu_i H r (t / 32)) (t % 32) <;> cases v <;> decide
    · rw [if_neg e2, decide_eq_false (by show ¬ t % 32 = s % 32; omega), Bool.xor_false, e]
  · rw [if_neg (fun z => e z.2), if_neg (fun z => e (by rw [z]))]⟩
theorem bI_inj {a b : Bool} (h : bI a = bI b) : a = b := by
  cases a <;> cases b
  · rfl
  · exact absurd h (by decide)
  · exact absurd h (by decide)
  · rfl
theorem rp_put {H : mu_H} {d q r s : Nat} {v : Bool} (hq : btr H q r) (hs : s < 16384) : mu_TV (mu_D (d + 2)) 513 [.inr (.inr (some q)), .inl (nI s), .inl (bI v)] H (fun H1 => bwr r s v H H1) := by
  refine mu_meth (M := mu_m513) rfl rfl ?_
  refine mw_ht (mu_fn_of (show [0, 1, 2].Nodup by decide)) ?_
  have hq0 := hq
  obtain ⟨c1, c2, c3, c4⟩ := hq
  have s5 := rI_shr5 (a := s) (by omega)
  have s31 := sh31e (k := s) (by omega)
  have s512 : s / 32 < 512 := by omega
  have sc : (nI (s / 32)).toNatClampNeg = s / 32 := nI_clamp (by omega)
  have wx : mu_i H r (nI (s / 32)).toNatClampNeg = mu_i H r (s / 32) := by rw [sc]
  have ask := b3_ask (x := mu_i H r (s / 32)) (k := s % 32) (by omega)
  refine mw_go mu_g513 (k := 2) (f1 := (2, [(0, .inr (.inr (some q))), (1, .inl (nI s)), (2, .inl (bI v))], [.inl (nI s), .inr (.inr (some q))], H)) (C := []) rfl trivial ?_
  refine mw_cIe (fun _ => rfl) (show mu_is H (some q) 14 from c1) (rp_has (d := d) hq0 hs) ?_
  refine mw_go mu_g513 (k := 1) (f1 := (6, [(0, .inr (.inr (some q))), (1, .inl (nI s)), (2, .inl (bI v))], [.inl (bI v), .inl (bI (bst H r s))], H)) (C := []) rfl trivial ?_
  refine mw_if (P := (bI (bst H r s)) = (bI v)) (a := 32) (b := 9) (fun _ => rfl) trivial (fun h1 => ?_) (fun h1 => ?_)
  · -- 32
    exact mw_of (fun _ => mu_ret rfl trivial ⟨_, rfl, bwr_no (bI_inj h1)⟩)
  · -- 9
    refine mw_go mu_g513 (k := 2) (f1 := (13, [(0, .inr (.inr (some q))), (1, .inl (nI s)), (2, .inl (bI v))], [.inr (.inr (mu_r H q 0))], H)) (C := [mu_is H (some q) 14]) rfl (show mu_is H (some q) 14 from c1) ?_
    refine mw_fr (f' := (13, [(0, .inr (.inr (some q))), (1, .inl (nI s)), (2, .inl (bI v))], [.inr (.inr (some r))], H)) (by first | (rw [c2]; done) | (rw [c2]; rfl)) ?_
    refine mw_go mu_g513 (k := 3) (f1 := (16, [(0, .inr (.inr (some q))), (1, .inl (nI s)), (2, .inl (bI v))], [.inl ((nI s) >>> ((5 : Int32) &&& 31)), .inr (.inr (some r))], H)) (C := []) rfl trivial ?_
    refine mw_fr (f' := (16, [(0, .inr (.inr (some q))), (1, .inl (nI s)), (2, .inl (bI v))], [.inl (nI (s / 32)), .inr (.inr (some r))], H)) (by first | (rw [s5]; done) | (rw [s5]; rfl)) ?_
    refine mw_go mu_g513 (k := 2) (f1 := (20, [(0, .inr (.inr (some q))), (1, .inl (nI s)), (2, .inl (bI v))], [.inr (.inr (mu_r H q 0)), .inl (nI (s / 32)), .inr (.inr (some r))], H)) (C := [mu_is H (some q) 14]) rfl (show mu_is H (some q) 14 from c1) ?_
    refine mw_fr (f' := (20, [(0, .inr (.inr (some q))), (1, .inl (nI s)), (2, .inl (bI v))], [.inr (.inr (some r)), .inl (nI (s / 32)), .inr (.inr (some r))], H)) (by first | (rw [c2]; done) | (rw [c2]; rfl)) ?_
    refine mw_go mu_g513 (k := 3) (f1 := (23, [(0, .inr (.inr (some q))), (1, .inl (nI s)), (2, .inl (bI v))], [.inl ((nI s) >>> ((5 : Int32) &&& 31)), .inr (.inr (some r)), .inl (nI (s / 32)), .inr (.inr (some r))], H)) (C := []) rfl trivial ?_
    refine mw_fr (f' := (23, [(0, .inr (.inr (some q))), (1, .inl (nI s)), (2, .inl (bI v))], [.inl (nI (s / 32)), .inr (.inr (some r)), .inl (nI (s / 32)), .inr (.inr (some r))], H)) (by first | (rw [s5]; done) | (rw [s5]; rfl)) ?_
    refine mw_go mu_g513 (k := 1) (f1 := (24, [(0, .inr (.inr (some q))), (1, .inl (nI s)), (2, .inl (bI v))], [.inl (mu_i H r (nI (s / 32)).toNatClampNeg), .inl (nI (s / 32)), .inr (.inr (some r))], H)) (C := [mu_isr H (some r) 100, vp_in (nI (s / 32)) (mu_n H r)]) rfl (show (mu_isr H (some r) 100) ∧ (vp_in (nI (s / 32)) (mu_n H r)) from ⟨⟨rfl, Or.inl c3.2.1, c3.2.2⟩, (vp_in_nI (by rw [c4]; exact s512) (by rw [c4]; decide))⟩) ?_
    refine mw_fr (f' := (24, [(0, .inr (.inr (some q))), (1, .inl (nI s)), (2, .inl (bI v))], [.inl (mu_i H r (s / 32)), .inl (nI (s / 32)), .inr (.inr (some r))], H)) (by first | (rw [wx]; done) | (rw [wx]; rfl)) ?_
    refine mw_go mu_g513 (k := 4) (f1 := (29, [(0, .inr (.inr (some q))), (1, .inl (nI s)), (2, .inl (bI v))], [.inl ((nI s) &&& (31 : Int32)), .inl (1 : Int32), .inl (mu_i H r (s / 32)), .inl (nI (s / 32)), .inr (.inr (some r))], H)) (C := []) rfl trivial ?_
    refine mw_fr (f' := (29, [(0, .inr (.inr (some q))), (1, .inl (nI s)), (2, .inl (bI v))], [.inl (nI (s % 32)), .inl (1 : Int32), .inl (mu_i H r (s / 32)), .inl (nI (s / 32)), .inr (.inr (some r))], H)) (by first | (rw [s31]; done) | (rw [s31]; rfl)) ?_
    refine mw_go mu_g513 (k := 3) (f1 := (32, [(0, .inr (.inr (some q))), (1, .inl (nI s)), (2, .inl (bI v))], [], (mu_si H r (nI (s / 32)).toNatClampNeg ((mu_i H r (s / 32)) ^^^ ((1 : Int32) <<< ((nI (s % 32)) &&& 31)))))) (C := [mu_is H (some r) 100, vp_in (nI (s / 32)) (mu_n H r)]) rfl (show (mu_is H (some r) 100) ∧ (vp_in (nI (s / 32)) (mu_n H r)) from ⟨c3, (vp_in_nI (by rw [c4]; exact s512) (by rw [c4]; decide))⟩) ?_
    refine mw_fr (f' := (32, [(0, .inr (.inr (some q))), (1, .inl (nI s)), (2, .inl (bI v))], [], (mu_si H r (s / 32) ((mu_i H r (s / 32)) ^^^ ((1 : Int32) <<< ((nI (s % 32)) &&& 31)))))) (by rw [sc]) ?_
    exact mw_of (fun _ => mu_ret rfl trivial ⟨_, rfl, bwr_ye (fun z => h1 (by rw [z]))⟩)
