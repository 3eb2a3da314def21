/-! THE RELATION WHILE IT IS MADE: masks, loading, tables and wide rows -/
section Masks
variable {x y : Int32} {j k : Nat}
theorem and_1 (w : Int32) : w &&& (1 : Int32) = 0 ∨ w &&& (1 : Int32) = 1 := by
  have h : (w &&& (1 : Int32)).toBitVec.toNat = w.toBitVec.toNat % 2 := by
    rw [Int32.toBitVec_and, BitVec.toNat_and]
    exact Nat.and_one_is_mod _
  rcases Nat.mod_two_eq_zero_or_one w.toBitVec.toNat with e | e
  · left
    rw [← Int32.toBitVec_inj]
    apply BitVec.eq_of_toNat_eq
    rw [h, e]
    rfl
  · right
    rw [← Int32.toBitVec_inj]
    apply BitVec.eq_of_toNat_eq
    rw [h, e]
    rfl
theorem mb_of (h : (¬ mb x j = 0) ↔ (¬ mb y k = 0)) : mb x j = mb y k := by
  have h1 : mb x j = 0 ∨ mb x j = 1 := and_1 _
  have h2 : mb y k = 0 ∨ mb y k = 1 := and_1 _
  rcases h1 with e1 | e1 <;> rcases h2 with e2 | e2
  · rw [e1, e2]
  · exact absurd e1 (h.mpr (by rw [e2]; decide))
  · exact absurd e2 (h.mp (by rw [e1]; decide))
  · rw [e1, e2]
theorem mb_low (hj : j < 14) : mb (x &&& (16383 : Int32)) j = mb x j := by
  have key : ∀ j : Fin 14, (16383 : Int32).toBitVec.getLsbD j.1 = true := by decide
  refine mb_of ?_
  rw [mb_bit _ j (by omega), mb_bit x j (by omega), Int32.toBitVec_and, BitVec.getLsbD_and, key ⟨j, hj⟩, Bool.and_true]
theorem mask_high (h : ∀ k, 28 ≤ k → k < 32 → mb x k = 0) : ∃ n, n < 16384 ∧ (x.toUInt32 >>> ((14 : Int32).toUInt32 &&& Int32.toUInt32 31)).toInt32 = nI n ∧ ∀ j, j < 14 → mb (nI n) j = mb x (j + 14) := by
  have hlt : x.toBitVec.toNat < 2 ^ 28 := by
    apply Nat.lt_pow_two_of_testBit
    intro i hi
    by_cases h32 : i < 32
    · cases e : x.toBitVec.toNat.testBit i
      · rfl
      · exact absurd (h i hi h32) ((mb_bit x i h32).mpr e)
    · exact BitVec.getLsbD_of_ge x.toBitVec i (by omega)
  have hdiv : x.toBitVec.toNat / 2 ^ 14 < 16384 := by omega
  refine ⟨x.toBitVec.toNat / 2 ^ 14, hdiv, ?_, fun j hj => mb_of ?_⟩
  · rw [← Int32.toBitVec_inj]
    apply BitVec.eq_of_toNat_eq
    show ((x.toUInt32 >>> ((14 : Int32).toUInt32 &&& Int32.toUInt32 31)).toBitVec).toNat = (BitVec.ofNat 32 (x.toBitVec.toNat / 2 ^ 14)).toNat
    rw [UInt32.toBitVec_shiftRight]
    have e : (((14 : Int32).toUInt32 &&& Int32.toUInt32 31).toBitVec % 32) = 14#32 := by decide
    show (x.toBitVec >>> (((14 : Int32).toUInt32 &&& Int32.toUInt32 31).toBitVec % 32)).toNat = _
    rw [e, BitVec.ushiftRight_eq', BitVec.toNat_ushiftRight, BitVec.toNat_ofNat, BitVec.toNat_ofNat, Nat.shiftRight_eq_div_pow, Nat.mod_eq_of_lt (show (14 : Nat) < 2 ^ 32 by decide), Nat.mod_eq_of_lt (by omega)]
  · rw [mb_nat (by omega) (by omega), mb_bit x (j + 14) (by omega), Nat.testBit_div_two_pow]
    rfl
theorem TMK.pl {P : Nat} (hk : k < P) (hP : P ≤ 14) : TMK ((1 : Int32) <<< (nI k &&& 31)) k P := by
  have e := one_shl k (by omega)
  have hp : 2 ^ k < 16384 := Nat.lt_of_lt_of_le (Nat.pow_lt_pow_right (by decide) (show k < 14 by omega)) (by decide)
  refine ⟨2 ^ k, e, hp, by omega, Or.inr ⟨hk, (mb_one (by omega) (by omega)).mpr rfl, fun j h1 h2 => Decidable.not_not.mp (fun y => ?_)⟩⟩
  have := (mb_one (k := k) (j := j) (by omega) h2).mp y
  omega
theorem lvz_pl (hk : k < 14) : lvz ((1 : Int32) <<< (nI k &&& 31)) k = nI k := by
  unfold lvz
  rw [if_neg]
  intro y
  have := (mb_one (k := k) (j := k) (by omega) (by omega)).mpr rfl
  rw [y] at this
  exact this (mb_0 k (by omega))
end Masks
section Chosen
variable {Y : Ts} {a N : Nat}
theorem rep2_in : ∀ {n : Nat}, 1 ≤ n → true ∈ rep2 n
  | n + 1, _ => List.mem_cons_self
theorem cho_some (hC : Cc Y) (hb : a + N ≤ (Y 0).1) : ∀ n, n ≤ N → ∀ L : List Bool, kst (Y 0) a n = some L → true ∈ L → ∃ x, x < n ∧ (oc Y (a + x) = 32 ∨ oc Y (a + x) = 33) ∧ 1 ≤ plen (oc Y (a + x)) (oa Y (a + x))
  | 0, _, L, h, ht => by
    have e : L = [] := (Option.some.inj h).symm
    rw [e] at ht
    exact absurd ht List.not_mem_nil
  | n + 1, hn, L, h, ht => by
    obtain ⟨L', e1, e2⟩ := kst_step h
    obtain ⟨t, e3, e4⟩ := ktake_some e2
    have rec2 : true ∈ L' → ∃ x, x < n + 1 ∧ (oc Y (a + x) = 32 ∨ oc Y (a + x) = 33) ∧ 1 ≤ plen (oc Y (a + x)) (oa Y (a + x)) := fun y => by
      obtain ⟨x, x1, x2⟩ := cho_some hC hb n (by omega) L' e1 y
      exact ⟨x, by omega, x2⟩
    rw [e4] at ht
    rcases List.mem_cons.mp ht with y | y
    · have ho : 32 ≤ oc Y (a + n) := of_decide_eq_true y.symm
      obtain ⟨k, k1, k2, k3, k4⟩ := hC (a + n) (by omega)
      have hk : oc Y (a + n) = k := by
        unfold oc
        rw [k2]
        exact nI_clamp (by omega)
      have h3 : k = 32 ∨ k = 33 ∨ k = 34 := by omega
      rcases h3 with z | z | z
      · refine ⟨n, by omega, Or.inl (hk.trans z), ?_⟩
        rw [hk, z]
        show 1 ≤ 1
        omega
      · obtain ⟨q, q1, q2, q3⟩ := k4 (Or.inr (Or.inr (Or.inl z)))
        have hq : oa Y (a + n) = q := by
          unfold oa
          rw [q3]
          exact nI_clamp (by omega)
        refine ⟨n, by omega, Or.inr (hk.trans z), ?_⟩
        rw [hk, z, hq]
        exact q1
      · obtain ⟨q, q1, q2, q3⟩ := k4 (Or.inr (Or.inr (Or.inr z)))
        have hq : oa Y (a + n) = q := by
          unfold oa
          rw [q3]
          exact nI_clamp (by omega)
        refine rec2 ?_
        rw [e3, hk, z, hq]
        exact List.mem_append_left _ (rep2_in q1)
    · exact rec2 (by rw [e3]; exact List.mem_append_right _ y)
end Chosen
/-- what stands while the relation is made: the Machine, the Space -/
def RSK (m : Nat) (V : Ud) (Y : Ts) (P : Nat) (f od : Nat → Nat) (es : Nat → Int32) : Prop := KNV m V Y P f od es ∧ MCS V ∧ MLW V Y P f od ∧ WDM V Y P ∧ (∃ bf bt, BZ V bf bt) ∧ VDF V P f ∧ (pd f 0 P + 4 ≤ (V.2.2.1 129 10).1 ∧ (V.2.2.1 129 10).1 ≤ 16777216)
/-- the same, a code being loaded -/
def RSKL (m : Nat) (V : Ud) (Y : Ts) (P : Nat) (f od : Nat → Nat) (es : Nat → Int32) (a n i : Nat) : Prop := KNV m V Y P f od es ∧ MCS V ∧ LDW V Y P f od a n i ∧ ((∃ wd, V.2.1 100 6 = nI wd ∧ wd ≤ (Y 0).1 ∧ WDF Y a n wd) ∧ MKC (NXP Y (V.1 15) P a n i) (V.2.1 100 4)) ∧ (∃ bf bt, BZ V bf bt) ∧ VDF V P f ∧ (pd f 0 P + 4 ≤ (V.2.2.1 129 10).1 ∧ (V.2.2.1 129 10).1 ≤ 16777216)
section Steps
variable {O0 : Nat → (Nat → Bool) × Bool} {H : mu_H} {U V : Ud} {m d P N0 sf nb ba bn bi N us nf nw ou a n i k mo M l : Nat} {C : Nat → Nat} {Y : Ts} {f od bs lv wa wn wi z : Nat → Nat} {wk : Nat → Bool} {bb : Bool} {es rs : Nat → Int32} {nm tm : Nat → Int32} {mk al nmk tmk lx x3 : Int32} {bo oid : Nat → Nat → Nat} {S : Nat → Nat → Bool} {p : Nat → Bool} {br : Option Nat} {F : Uf} {Lk : List Bool}
theorem vdf_same (h : VDF U P f) (i9 : V.2.1 99 9 = U.2.1 99 9) (a8 : V.2.2.1 99 8 = U.2.2.1 99 8) : VDF V P f := by
  unfold VDF at *
  rw [i9, a8]
  exact h
theorem RSKL.kk (h : RSKL m V Y P f od es a n i) (hb : a + n ≤ (Y 0).1) (hi : i < (Y 11).1) : RSK m V Y P f od es := by
  obtain ⟨h1, h2, h3, ⟨h4, h5⟩, h6⟩ := h
  have h11 := h1.2.2.2.1.1.2.2.2.2.2.2 11 (by decide)
  exact ⟨h1, h2, Or.inr ⟨a, n, i, hb, hi, h3⟩, h3.wdm hb (by omega) h4 h5, h6⟩
/-- frames that keep it -/
def sokf (F : Uf) : Bool := !in1 F.t 15 && (!in1 F.t 21 && (!in1 F.t 22 && (!in2 F.i 100 4 && (!in2 F.i 100 5 && (!in2 F.i 100 6 && (!in2 F.i 100 7 && (!in2 F.i 100 17 && (!in2 F.i 99 9 && (!in2 F.i 129 19 && (!in2 F.i 129 20 && (!in2 F.a 100 3 && (!in2 F.a 100 8 && (!in2 F.a 99 8 && (!in2 F.n 100 12 && (!in2 F.n 100 13 && (!in2 F.n 100 15 && (!in2 F.n 129 10 && !in1 F.l 146)))))))))))))))))
theorem sok_eq (hq : uq F U V) (hF : sokf F = true) : (V.1 15 = U.1 15 ∧ V.1 21 = U.1 21 ∧ V.1 22 = U.1 22) ∧ (V.2.1 100 4 = U.2.1 100 4 ∧ V.2.1 100 5 = U.2.1 100 5 ∧ V.2.1 100 6 = U.2.1 100 6 ∧ V.2.1 100 7 = U.2.1 100 7 ∧ V.2.1 100 17 = U.2.1 100 17 ∧ V.2.1 99 9 = U.2.1 99 9 ∧ V.2.1 129 19 = U.2.1 129 19 ∧ V.2.1 129 20 = U.2.1 129 20) ∧ (V.2.2.1 100 3 = U.2.2.1 100 3 ∧ V.2.2.1 100 8 = U.2.2.1 100 8 ∧ V.2.2.1 99 8 = U.2.2.1 99 8) ∧ ((V.2.2.1 100 12).1 = (U.2.2.1 100 12).1 ∧ (V.2.2.1 100 13).1 = (U.2.2.1 100 13).1 ∧ (V.2.2.1 100 15).1 = (U.2.2.1 100 15).1 ∧ (V.2.2.1 129 10).1 = (U.2.2.1 129 10).1) ∧ V.2.2.2.2.1 146 = U.2.2.2.2.1 146 := by
  unfold sokf at hF
  obtain ⟨b1, hF⟩ := kok_b hF
  obtain ⟨b2, hF⟩ := kok_b hF
  obtain ⟨b3, hF⟩ := kok_b hF
  obtain ⟨b4, hF⟩ := kok_b hF
  obtain ⟨b5, hF⟩ := kok_b hF
  obtain ⟨b6, hF⟩ := kok_b hF
  obtain ⟨b7, hF⟩ := kok_b hF
  obtain ⟨b8, hF⟩ := kok_b hF
  obtain ⟨b9, hF⟩ := kok_b hF
  obtain ⟨b10, hF⟩ := kok_b hF
  obtain ⟨b11, hF⟩ := kok_b hF
  obtain ⟨b12, hF⟩ := kok_b hF
  obtain ⟨b13, hF⟩ := kok_b hF
  obtain ⟨b14, hF⟩ := kok_b hF
  obtain ⟨b15, hF⟩ := kok_b hF
  obtain ⟨b16, hF⟩ := kok_b hF
  obtain ⟨b17, hF⟩ := kok_b hF
  obtain ⟨b18, hF⟩ := kok_b hF
  have b19 : in1 F.l 146 = false := by
    cases e : in1 F.l 146
    · rfl
    · rw [e] at hF
      cases hF
  exact ⟨⟨hq.t 15 b1, hq.t 21 b2, hq.t 22 b3⟩, ⟨hq.i 100 4 b4, hq.i 100 5 b5, hq.i 100 6 b6, hq.i 100 7 b7, hq.i 100 17 b8, hq.i 99 9 b9, hq.i 129 19 b10, hq.i 129 20 b11⟩, ⟨hq.a 100 3 b12, hq.a 100 8 b13, hq.a 99 8 b14⟩, ⟨hq.n 100 12 b15, hq.n 100 13 b16, hq.n 100 15 b17, hq.n 129 10 b18⟩, hq.l 146 b19⟩
theorem RSKL.q (h : RSKL m U Y P f od es a n i) (hq : uq F U V) (hk : kok F = true) (hF : sokf F = true) : RSKL m V Y P f od es a n i := by
  obtain ⟨h1, h2, h3, ⟨h4, h5⟩, ⟨bf, bt, h6⟩, h7, h8⟩ := h
  obtain ⟨⟨e15, e21, e22⟩, ⟨i4, i5, i6, i7, i17, i9, i19, i20⟩, ⟨a3, a8, a98⟩, ⟨n12, n13, n15, n10⟩, l146⟩ := sok_eq hq hF
  refine ⟨h1.q hq hk, ?_, h3.keep e21 e22 e15 a3 i5 i7 i17 i4 a8 n12 n13 n15 a98, ⟨by rw [i6]; exact h4, by rw [e15, i4]; exact h5⟩, ⟨bf, bt, BZ_keep h6 i19 i20 l146⟩, vdf_same h7 i9 a98, by rw [n10]; exact h8⟩
  unfold MCS at h2 ⊢
  rw [e22, a3, a8, n12, n13, n15]
  exact h2
theorem RSK.q (h : RSK m U Y P f od es) (hq : uq F U V) (hk : kok F = true) (hF : sokf F = true) : RSK m V Y P f od es := by
  obtain ⟨h1, h2, h3, h4, ⟨bf, bt, h6⟩, h7, h8⟩ := h
  obtain ⟨⟨e15, e21, e22⟩, ⟨i4, i5, i6, i7, i17, i9, i19, i20⟩, ⟨a3, a8, a98⟩, ⟨n12, n13, n15, n10⟩, l146⟩ := sok_eq hq hF
  refine ⟨h1.q hq hk, ?_, h3.imp (fun y => by rw [e21]; exact y) (fun ⟨a0, N0, i0, y1, y2, y3⟩ => ⟨a0, N0, i0, y1, y2, y3.keep e21 e22 e15 a3 i5 i7 i17 i4 a8 n12 n13 n15 a98⟩), h4.same e21 i6 e15 i4, ⟨bf, bt, BZ_keep h6 i19 i20 l146⟩, vdf_same h7 i9 a98, by rw [n10]; exact h8⟩
  unfold MCS at h2 ⊢
  rw [e22, a3, a8, n12, n13, n15]
  exact h2
theorem RSKL.nxw (h : RSKL m U Y P f od es a n i) (hmk : U.2.1 100 4 = mk) (h0 : ∀ k, 14 ≤ k → k < 28 → mb mk k = 0) : ¬ NXW Y (U.1 15) P a n i := by
  obtain ⟨h1, -, ⟨S0, K, dp, W, mk', M, rk, l1, l2, l3, l4⟩, -⟩ := h
  have emk : mk' = mk := l2.1.2.2.2.symm.trans hmk
  subst emk
  have hP := h1.P14
  rintro ⟨x, x1, x2, x3, w, pl, w1, w2, w3, w4⟩
  obtain ⟨y, -⟩ := l3.1.1 x x1 (Or.inr x2)
  rcases y x3 w w1 w3 with z | ⟨pl', z1, z2, z3⟩
  · rw [w4] at z
    exact absurd z (nI_neg1 (by omega))
  · rw [if_pos x2] at z3
    exact z3 (h0 (pl' + 14) (by omega) (by omega))
theorem RSKL.top (h : RSKL m U Y P f od es a n i) (hmk : U.2.1 100 4 = mk) : ∀ k, k < 32 → ¬ mb mk k = 0 → k < 28 ∧ k % 14 < P := by
  obtain ⟨h1, -, ⟨S0, K, dp, W, mk', M, rk, l1, l2, l3, l4⟩, -⟩ := h
  have emk : mk' = mk := l2.1.2.2.2.symm.trans hmk
  subst emk
  exact fun k hk hm => ⟨(l3.2.2 k hk hm).1, (l3.2.2 k hk hm).2.1⟩
theorem rl_loadP (h : um m H) (e : ud m H = U) (hK : RSK m U Y P f od es) (hi : i < (Y 11).1) (hr : rgs Y (im Y i) Lk a (a + n)) (hC1 : 2 * (((Y 13).1 + 2) * 4) + 4 ≤ C 21) (hC2 : C 21 ≤ 8388608) : mu_TV (mu_D (d + 5)) 203 [.inr (.inr (some 100)), .inl (nI a), .inl (nI (a + n)), .inl (nI i)] H (fun H1 => um m H1 ∧ ur m C H H1 ∧ uq F203 U (ud m H1) ∧ RSKL m (ud m H1) Y P f od es a n i) := by
  obtain ⟨h1, h2, h3, h4, ⟨bf, bt, h6⟩, h7, h8⟩ := hK
  refine (mc_load6 (C := C) h e h1 h2 h3 h4 hi hr hC1 hC2).imp (fun H1 q => ?_)
  obtain ⟨u, r, q, k1, k2, k3, -, k4, k5⟩ := q
  exact ⟨u, r, q, k1, k2, k3, ⟨k4, by rw [q.t 15 rfl]; exact k5⟩, ⟨bf, bt, BZ_keep h6 (q.i 129 19 rfl) (q.i 129 20 rfl) (q.l 146 rfl)⟩, vdf_same h7 (q.i 99 9 rfl) (q.a 99 8 rfl), by rw [q.n 129 10 rfl]; exact h8⟩

/-- choices in a table -/
theorem rl_tabP (h : um m H) (e : ud m H = U) (hK : RSKL m U Y P f od es a n i) (hi : i < (Y 11).1) (hr : rgs Y (im Y i) Lk a (a + n)) (hLk : 1 ≤ Lk.length) (hb : (bb = true → Lk = [true]) ∧ (bb = false → ¬ true ∈ Lk)) (hs : SRT Y es i al a rs n) (hal : ¬ al = 2) (hnx : ¬ NXW Y (U.1 15) P a n i) (hk : k < P) (hmk : U.2.1 100 4 = mk) (hmo : CHK Y bb a n mo) (hmo1 : 1 ≤ mo) (hR : RST U Y es P f N0 O0 sf nb bo br ba bn bi N us S z p nf nm tm bs lv oid nw wa wn wi wk ou) (hcn : nf + nw ≤ 16384) (hN00 : N0 ≤ 100000) (hsf : sf ≤ 1300000) (hroom : (((∀ q, ¬ KNF nf nm tm (bo (nb - 1) 0) mk ((1 : Int32) <<< (nI k &&& 31)) q) ∧ ou + pm mk f P ≤ 32768) ∨ ∃ q, KNF nf nm tm (bo (nb - 1) 0) mk ((1 : Int32) <<< (nI k &&& 31)) q)) (hcost : us - sf + pm mk f P * (min ((mo + 3) / 4) ((f k + 63) / 64) + 1) ≤ 65536) (hC1 : 2 * ((nf + 1) * 6) + 6 ≤ C 24) (hC2 : C 24 ≤ 8388608) : mu_TV (mu_D (d + 8)) 307 [.inr (.inr (some 129)), .inl (nI k)] H (fun H1 => um m H1 ∧ ur m C H H1 ∧ uq F307 U (ud m H1) ∧ RSKL m (ud m H1) Y P f od es a n i ∧ ∃ N' us' S' z' p' nf' nm' tm' bs' lv' oid' nw' wa' wn' wi' wk' ou', RST (ud m H1) Y es P f N0 O0 sf nb bo br ba bn bi N' us' S' z' p' nf' nm' tm' bs' lv' oid' nw' wa' wn' wi' wk' ou' ∧ nf' + nw' ≤ nf + nw + 1 ∧ ∀ b s t, b < nb → s < pd f 0 P → t < pd f 0 P → (LVB Y (ud m H1) P f od S' nf' nm' tm' oid' nw' wa' wn' wi' wk' nb bo br b s t ↔ LVB Y U P f od S nf nm tm oid nw wa wn wi wk nb bo br b s t ∧ (b + 1 = nb → CHSw Y U f P od bb a n i s ((U.2.2.1 99 8).2 (sm f 0 k + dgzU f P t k))))) := by
  obtain ⟨k1, k2, k3, ⟨k4, k5⟩, ⟨bf, bt, k6⟩, k7, ⟨k8, k9⟩⟩ := hK
  have hfms := hR.fms
  obtain ⟨⟨hF, hSO, hW⟩, ⟨hB, hB0, hB1, h00⟩, ⟨hb1, hb2⟩, hun, ⟨o1, o2, o3, o4⟩, ⟨n1, n2, n3, n4⟩, hbr⟩ := id hR
  have hP := k1.P14
  have hpm := (pm_le (mk := mk) (f := f) (n := P) (fun k _ => k1.2.1 k)).2
  have hpd : pd f 0 P ≤ 16384 := k1.1.2.2.2.1.2.1
  have hbs : ∀ q, q < nf → (U.1 24).2 q 2 = nI (bs q) := fun q hq => (hF.2 q hq).1.2.2.1
  rcases hroom with ⟨hnk, hfit⟩ | ⟨qk, hqk⟩
  · refine (rl_tab0 (C := C) (d := d) h e k1 k2 k3 hi hr hLk hb hs hal hmk hnx hmo hmo1 hk k7 k6 hSO hfms hbs o1 o2 o3 (by omega) (by omega) k8 k9 hC1 hC2 hnk hfit).imp (fun H1 q => ?_)
    obtain ⟨u, r, q, j1, j2, j3, j4, ⟨V0, v1, v2, hT⟩, h5, h24⟩ := q
    obtain ⟨N', us', S', z', p', oi, hR', hL⟩ := RST.put (od := od) hR k1.2.1 hP (by omega) v2 hT h5 (by rw [lvz_pl (show k < 14 by omega)]; exact h24) (TMK.pl hk hP) (fun c x hc hq => by rw [pm_one hk hP]; exact hq.1) (q.t 15 rfl) (q.t 25 rfl) (q.t 27 rfl) (q.a 99 8 rfl) (q.i 113 7 rfl) hcost hfit hnk
    refine ⟨u, r, q, ⟨j1, j2, j3, ⟨by rw [q.i 100 6 rfl]; exact k4, by rw [q.t 15 rfl, q.i 100 4 rfl]; exact k5⟩, j4, vdf_same k7 (q.i 99 9 rfl) (q.a 99 8 rfl), by rw [q.n 129 10 rfl]; exact ⟨k8, k9⟩⟩, N', us', S', z', p', nf + 1, upv nm nf mk, upv tm nf ((1 : Int32) <<< (nI k &&& 31)), upv bs nf ou, upv lv nf k, upv oid nf oi, nw, wa, wn, wi, wk, ou + pm mk f P, hR', by omega, fun b s t hb hs ht => (hL b s t hb hs ht).trans (and_congr Iff.rfl (imp_congr Iff.rfl ?_))⟩
    show (ixz ((1 : Int32) <<< (nI k &&& 31)) f (dgzU f P t) P < f k ∧ CHW Y bb (lvl Y (vlz U f mk 0 (pj mk f P P s)) (vlz U f mk 14 (pj mk f P P s)) (evz Y od (vlz U f mk 0 (pj mk f P P s))) i) a n ((U.2.2.1 99 8).2 (sm f 0 k + ixz ((1 : Int32) <<< (nI k &&& 31)) f (dgzU f P t) P))) ↔ _
    rw [ixz_one hk hP, chs_state k1 k3 hmk hnx hi hr hs]
    exact ⟨fun y => y.2, fun y => ⟨dgz_lt k1.2.1, y⟩⟩
  · obtain ⟨q1, q2, q3⟩ := id hqk
    refine (rl_tab1 (C := C) (d := d) (oq := oid qk) h e k1 k2 k3 hi hr hLk hb hs hal hmk hnx hmo hmo1 hk k7 k6 hSO hfms hbs o1 o2 o3 (by omega) (by omega) k8 k9 hC1 hC2 hqk (fun q q' g1 g2 => hun q q' g1.1.1 g1.1.2 g2.1.1 g2.1.2 (g1.2.1.trans g2.2.1.symm) (g1.2.2.trans g2.2.2.symm)) rfl (by rw [← q2]; exact (hF.2 qk q1.2).2.2.1) (fun c hc => by rw [← q2] at hc; obtain ⟨y1, y2, y3, -⟩ := (hF.2 qk q1.2).2.2.2 c hc; exact ⟨y1, y2, y3⟩)).imp (fun H1 q => ?_)
    obtain ⟨u, r, q, j1, j2, j3, j4, hT, h5, h4, h24⟩ := q
    obtain ⟨N', us', S', z', p', oi, hR', hL⟩ := RST.again (od := od) hR k1.2.1 hqk hT h4 h5 h24 (q.t 15 rfl) (q.t 25 rfl) (q.t 27 rfl) (q.a 99 8 rfl) (q.i 113 7 rfl) hcost
    refine ⟨u, r, q, ⟨j1, j2, j3, ⟨by rw [q.i 100 6 rfl]; exact k4, by rw [q.t 15 rfl, q.i 100 4 rfl]; exact k5⟩, j4, vdf_same k7 (q.i 99 9 rfl) (q.a 99 8 rfl), by rw [q.n 129 10 rfl]; exact ⟨k8, k9⟩⟩, N', us', S', z', p', nf, nm, tm, bs, lv, upv oid qk oi, nw, wa, wn, wi, wk, ou, hR', by omega, fun b s t hb hs ht => (hL b s t hb hs ht).trans (and_congr Iff.rfl (imp_congr Iff.rfl ?_))⟩
    show (ixz ((1 : Int32) <<< (nI k &&& 31)) f (dgzU f P t) P < f k ∧ CHW Y bb (lvl Y (vlz U f mk 0 (pj mk f P P s)) (vlz U f mk 14 (pj mk f P P s)) (evz Y od (vlz U f mk 0 (pj mk f P P s))) i) a n ((U.2.2.1 99 8).2 (sm f 0 k + ixz ((1 : Int32) <<< (nI k &&& 31)) f (dgzU f P t) P))) ↔ _
    rw [ixz_one hk hP, chs_state k1 k3 hmk hnx hi hr hs]
    exact ⟨fun y => y.2, fun y => ⟨dgz_lt k1.2.1, y⟩⟩

theorem RSKL.prog (h : RSKL m U Y P f od es a n i) : ∃ K, (U.1 21).1 = K + 1 ∧ K ≤ 67108864 ∧ (U.1 21).2 K 0 = nI a ∧ (U.1 21).2 K 1 = nI (a + n) ∧ (U.1 21).2 K 2 = nI i := by
  obtain ⟨h1, -, ⟨S0, K, dp, W, mk', M, rk, l1, l2, l3, l4⟩, -⟩ := h
  exact ⟨K, l1.2.1.1, by have y := l2.2.2.2.2.2.2.1; omega, l1.2.1.2.1, l1.2.1.2.2.1, l1.2.1.2.2.2.1⟩
theorem wide_up {x0 x1 x2 x4 : Int32} (hn : (U.1 25).1 = nw) : (upT (upT U (ap 25 U.1 x0 x1 x2 x3)) (ax 25 (upT U (ap 25 U.1 x0 x1 x2 x3)).1 (nI (U.1 25).1) 4 x4)).1 25 = tset 5 (tput 5 (U.1 25) x0 x1 x2 x3) (nI nw) 4 x4 := by
  rw [← hn]
  rfl
theorem wide_ne {x0 x1 x2 x4 : Int32} {j : Nat} (hj : ¬ j = 25) : (upT (upT U (ap 25 U.1 x0 x1 x2 x3)) (ax 25 (upT U (ap 25 U.1 x0 x1 x2 x3)).1 (nI (U.1 25).1) 4 x4)).1 j = U.1 j := by
  show (fu (fu U.1 25 _) 25 _) j = U.1 j
  rw [fu_ne _ _ hj, fu_ne _ _ hj]
def F308 : Uf := ⟨[25], [], [], [], [], false⟩
theorem wide_uq {x0 x1 x2 x4 : Int32} : uq F308 U (upT (upT U (ap 25 U.1 x0 x1 x2 x3)) (ax 25 (upT U (ap 25 U.1 x0 x1 x2 x3)).1 (nI (U.1 25).1) 4 x4)) := (((uq.refl F308 U).T (fun q hq => ap_ne (in1_ne rfl hq))).T (fun q hq => ax_ne (in1_ne rfl hq)))
/-- choices that are reckoned for each STATE -/
theorem rl_asideC (h : um m H) (e : ud m H = U) (hK : RSKL m U Y P f od es a n i) (hi : i < (Y 11).1) (hr : rgs Y (im Y i) Lk a (a + n)) (hLk : 1 ≤ Lk.length) (hb : (bb = true → Lk = [true]) ∧ (bb = false → ¬ true ∈ Lk)) (hs : SRT Y es i al a rs n) (hal : ¬ al = 2) (hnx : ¬ NXW Y (U.1 15) P a n i) (hk : k < P) (hR : RST U Y es P f N0 O0 sf nb bo br ba bn bi N us S z p nf nm tm bs lv oid nw wa wn wi wk ou) (hcn : nf + nw ≤ 16384) (hC1 : 2 * ((nw + 1) * 5) + 5 ≤ C 25) (hC2 : C 25 ≤ 8388608) : mu_TV (mu_D (d + 4)) 308 [.inr (.inr (some 129)), .inl (nI k), .inl (0 : Int32)] H (fun H1 => um m H1 ∧ ur m C H H1 ∧ uq F308 U (ud m H1) ∧ RSKL m (ud m H1) Y P f od es a n i ∧ ∃ N' us' S' z' p' nf' nm' tm' bs' lv' oid' nw' wa' wn' wi' wk' ou', RST (ud m H1) Y es P f N0 O0 sf nb bo br ba bn bi N' us' S' z' p' nf' nm' tm' bs' lv' oid' nw' wa' wn' wi' wk' ou' ∧ nf' + nw' ≤ nf + nw + 1 ∧ ∀ b s t, b < nb → s < pd f 0 P → t < pd f 0 P → (LVB Y (ud m H1) P f od S' nf' nm' tm' oid' nw' wa' wn' wi' wk' nb bo br b s t ↔ LVB Y U P f od S nf nm tm oid nw wa wn wi wk nb bo br b s t ∧ (b + 1 = nb → CHSw Y U f P od bb a n i s ((U.2.2.1 99 8).2 (sm f 0 k + dgzU f P t k))))) := by
  obtain ⟨K, p1, p2, p3, p4, p5⟩ := hK.prog
  have hWn := hR.1.2.2.1.1
  have hP := hK.1.P14
  refine (rl_aside (C := C) (d := d) (pv := nI k) (fm := 0) h e p1 p2 p3 p4 p5 hWn hC1 hC2).imp (fun H1 q => ?_)
  obtain ⟨u, r, q⟩ := q
  rw [q]
  have h25 := wide_up (U := U) (x0 := nI a) (x1 := nI (a + n)) (x2 := nI i) (x3 := nI k) (x4 := 0) hWn
  obtain ⟨hR', hL⟩ := RST.wide (bb := bb) (od := od) hR (by omega) h25 hi hr.2.1 (Or.inr (Or.inl ⟨k, hk, rfl, rfl, hnx, al, Lk, rs, hal, hr, hLk, hs, hb.1, hb.2⟩)) (wide_ne (by decide)) (wide_ne (by decide)) (wide_ne (by decide)) rfl
  refine ⟨u, r, wide_uq, hK.q wide_uq rfl rfl, N, us, S, z, p, nf, nm, tm, bs, lv, oid, nw + 1, upv wa nw a, upv wn nw n, upv wi nw i, upv wk nw bb, ou, hR', by omega, fun b s t hb hs ht => (hL b s t hb hs ht).trans (and_congr Iff.rfl (imp_congr Iff.rfl ?_))⟩
  rw [wlv_newC hWn (by omega) hk hP h25]
  exact CHSw_same (wide_ne (by decide)) rfl

/-- a truth that is reckoned for each step -/
theorem rl_asideT (h : um m H) (e : ud m H = U) (hK : RSKL m U Y P f od es a n i) (hi : i < (Y 11).1) (hr : rg Y (im Y i) false a (a + n)) (hs : SRT Y es i 1 a rs n) (hst : stk Y rs a n 0 = 1) (hn0 : ¬ n = 0) (hpl : x3 = -1 ∨ ∃ pl, pl < P ∧ x3 = nI pl ∧ ∀ q, NXP Y (U.1 15) P a n i q → q = pl) (hR : RST U Y es P f N0 O0 sf nb bo br ba bn bi N us S z p nf nm tm bs lv oid nw wa wn wi wk ou) (hcn : nf + nw ≤ 16384) (hC1 : 2 * ((nw + 1) * 5) + 5 ≤ C 25) (hC2 : C 25 ≤ 8388608) : mu_TV (mu_D (d + 4)) 308 [.inr (.inr (some 129)), .inl x3, .inl (1 : Int32)] H (fun H1 => um m H1 ∧ ur m C H H1 ∧ uq F308 U (ud m H1) ∧ RSKL m (ud m H1) Y P f od es a n i ∧ ∃ N' us' S' z' p' nf' nm' tm' bs' lv' oid' nw' wa' wn' wi' wk' ou', RST (ud m H1) Y es P f N0 O0 sf nb bo br ba bn bi N' us' S' z' p' nf' nm' tm' bs' lv' oid' nw' wa' wn' wi' wk' ou' ∧ nf' + nw' ≤ nf + nw + 1 ∧ ∀ b s t, b < nb → s < pd f 0 P → t < pd f 0 P → (LVB Y (ud m H1) P f od S' nf' nm' tm' oid' nw' wa' wn' wi' wk' nb bo br b s t ↔ LVB Y U P f od S nf nm tm oid nw wa wn wi wk nb bo br b s t ∧ (b + 1 = nb → trs Y U f P od i a n s t = 1))) := by
  obtain ⟨K, p1, p2, p3, p4, p5⟩ := hK.prog
  have hWn := hR.1.2.2.1.1
  refine (rl_aside (C := C) (d := d) (pv := x3) (fm := 1) h e p1 p2 p3 p4 p5 hWn hC1 hC2).imp (fun H1 q => ?_)
  obtain ⟨u, r, q⟩ := q
  rw [q]
  have h25 := wide_up (U := U) (x0 := nI a) (x1 := nI (a + n)) (x2 := nI i) (x3 := x3) (x4 := 1) hWn
  have hw : WTC Y es a n i := ⟨hr, rs, hs, hst⟩
  obtain ⟨hR', hL⟩ := RST.wide (bb := false) (od := od) hR (by omega) h25 hi hr.2.1 (hpl.elim (fun y => Or.inl ⟨y, rfl, Or.inr hw⟩) (fun ⟨pl, y1, y2, y3⟩ => Or.inr (Or.inr ⟨pl, y1, y2, rfl, hw, y3⟩))) (wide_ne (by decide)) (wide_ne (by decide)) (wide_ne (by decide)) rfl
  refine ⟨u, r, wide_uq, hK.q wide_uq rfl rfl, N, us, S, z, p, nf, nm, tm, bs, lv, oid, nw + 1, upv wa nw a, upv wn nw n, upv wi nw i, upv wk nw false, ou, hR', by omega, fun b s t hb hs ht => (hL b s t hb hs ht).trans (and_congr Iff.rfl (imp_congr Iff.rfl ?_))⟩
  rw [wlv_newT hWn (by omega) h25 hn0, trs_same (U := U) (wide_ne (by decide)) rfl]

/-- a truth in a table -/
theorem rl_tableP (h : um m H) (e : ud m H = U) (hK : RSKL m U Y P f od es a n i) (hi : i < (Y 11).1) (hr : rg Y (im Y i) false a (a + n)) (hs : SRT Y es i 1 a rs n) (hst : stk Y rs a n 0 = 1) (hn0 : ¬ n = 0) (hmk : U.2.1 100 4 = mk) (hnm : ∀ k, k < 14 → mb nmk k = mb mk k) (htm : ∀ k, k < 14 → mb tmk k = mb mk (k + 14)) (hMM : M = pm tmk f P) (hTM : TMK tmk l P) (hlx : (31 : Int32) - ji_lz tmk = lvz tmk l) (hR : RST U Y es P f N0 O0 sf nb bo br ba bn bi N us S z p nf nm tm bs lv oid nw wa wn wi wk ou) (hcn : nf + nw ≤ 16384) (hN00 : N0 ≤ 100000) (hsf : sf ≤ 1300000) (hroom : (((∀ q, ¬ KNF nf nm tm (bo (nb - 1) 0) nmk tmk q) ∧ ou + pm nmk f P ≤ 32768) ∨ ∃ q, KNF nf nm tm (bo (nb - 1) 0) nmk tmk q)) (hcost : us - sf + pm nmk f P * ((M + 63) / 64 + 1) ≤ 65536) (hC1 : 2 * ((nf + 1) * 6) + 6 ≤ C 24) (hC2 : C 24 ≤ 8388608) : mu_TV (mu_D (d + 8)) 302 [.inr (.inr (some 129)), .inl nmk, .inl tmk, .inl (nI M)] H (fun H1 => um m H1 ∧ ur m C H H1 ∧ uq F302 U (ud m H1) ∧ RSKL m (ud m H1) Y P f od es a n i ∧ ∃ N' us' S' z' p' nf' nm' tm' bs' lv' oid' nw' wa' wn' wi' wk' ou', RST (ud m H1) Y es P f N0 O0 sf nb bo br ba bn bi N' us' S' z' p' nf' nm' tm' bs' lv' oid' nw' wa' wn' wi' wk' ou' ∧ nf' + nw' ≤ nf + nw + 1 ∧ ∀ b s t, b < nb → s < pd f 0 P → t < pd f 0 P → (LVB Y (ud m H1) P f od S' nf' nm' tm' oid' nw' wa' wn' wi' wk' nb bo br b s t ↔ LVB Y U P f od S nf nm tm oid nw wa wn wi wk nb bo br b s t ∧ (b + 1 = nb → trs Y U f P od i a n s t = 1))) := by
  obtain ⟨k1, k2, k3, ⟨k4, k5⟩, ⟨bf, bt, k6⟩, k7, ⟨k8, k9⟩⟩ := hK
  have hfms := hR.fms
  obtain ⟨⟨hF, hSO, hW⟩, ⟨hB, hB0, hB1, h00⟩, ⟨hb1, hb2⟩, hun, ⟨o1, o2, o3, o4⟩, ⟨n1, n2, n3, n4⟩, hbr⟩ := id hR
  have hP := k1.P14
  have hpm := (pm_le (mk := nmk) (f := f) (n := P) (fun k _ => k1.2.1 k)).2
  have hpd : pd f 0 P ≤ 16384 := k1.1.2.2.2.1.2.1
  have hbs : ∀ q, q < nf → (U.1 24).2 q 2 = nI (bs q) := fun q hq => (hF.2 q hq).1.2.2.1
  have hlo : ¬ one1 tmk = 0 → lvz tmk l = nI l ∧ l < 28 := fun y => by
    obtain ⟨y1, y2, y3⟩ := hTM.yes y
    exact ⟨if_neg y3, by omega⟩
  have hmean : ∀ s t, s < pd f 0 P → t < pd f 0 P → ((ixz tmk f (dgzU f P t) P < M ∧ trz Y U f mk od i a n (pj nmk f P P s * M + ixz tmk f (dgzU f P t) P) = 1) ↔ trs Y U f P od i a n s t = 1) := fun s t hs' ht' => by
    have hx := ixz_lt (mk := tmk) (f := f) (dg := dgzU f P t) (n := P) (fun k _ => dgz_lt k1.2.1)
    rw [ixz_pj ht'] at hx ⊢
    rw [hMM, trz_two k1 k3 hmk hnm htm hi hr hs' ht']
    exact ⟨fun y => y.2, fun y => ⟨hx, y⟩⟩
  rcases hroom with ⟨hnk, hfit⟩ | ⟨qk, hqk⟩
  · refine (rl_table0 (C := C) (d := d) (l := l) h e k1 k2 k3 hi hr hs (by decide) hst hmk hnm htm hMM hlx hlo hSO hfms hbs o1 o2 o3 (by omega) (by omega) k8 k9 hC1 hC2 hnk hfit).imp (fun H1 q => ?_)
    obtain ⟨u, r, q, j1, j2, j3, ⟨V0, v1, v2, hT⟩, h5, h24⟩ := q
    obtain ⟨N', us', S', z', p', oi, hR', hL⟩ := RST.put (od := od) hR k1.2.1 hP (by omega) v2 hT h5 h24 hTM (fun c x hc hq => by rw [← hMM]; exact hq.1) (q.t 15 rfl) (q.t 25 rfl) (q.t 27 rfl) (q.a 99 8 rfl) (q.i 113 7 rfl) hcost hfit hnk
    exact ⟨u, r, q, ⟨j1, j2, j3, ⟨by rw [q.i 100 6 rfl]; exact k4, by rw [q.t 15 rfl, q.i 100 4 rfl]; exact k5⟩, ⟨bf, bt, BZ_keep k6 (q.i 129 19 rfl) (q.i 129 20 rfl) (q.l 146 rfl)⟩, vdf_same k7 (q.i 99 9 rfl) (q.a 99 8 rfl), by rw [q.n 129 10 rfl]; exact ⟨k8, k9⟩⟩, N', us', S', z', p', nf + 1, upv nm nf nmk, upv tm nf tmk, upv bs nf ou, upv lv nf l, upv oid nf oi, nw, wa, wn, wi, wk, ou + pm nmk f P, hR', by omega, fun b s t hb hs' ht' => (hL b s t hb hs' ht').trans (and_congr Iff.rfl (imp_congr Iff.rfl (hmean s t hs' ht')))⟩
  · obtain ⟨q1, q2, q3⟩ := id hqk
    refine (rl_table1 (C := C) (d := d) (l := l) (oq := oid qk) h e k1 k2 k3 hi hr hs (by decide) hst hmk hnm htm hMM hlx hlo hSO hfms hbs o1 o2 o3 (by omega) (by omega) k8 k9 hC1 hC2 hqk (fun q q' g1 g2 => hun q q' g1.1.1 g1.1.2 g2.1.1 g2.1.2 (g1.2.1.trans g2.2.1.symm) (g1.2.2.trans g2.2.2.symm)) rfl (by rw [← q2]; exact (hF.2 qk q1.2).2.2.1) (fun c hc => by rw [← q2] at hc; obtain ⟨y1, y2, y3, -⟩ := (hF.2 qk q1.2).2.2.2 c hc; exact ⟨y1, y2, y3⟩)).imp (fun H1 q => ?_)
    obtain ⟨u, r, q, j1, j2, j3, hT, h5, h4, h24⟩ := q
    obtain ⟨N', us', S', z', p', oi, hR', hL⟩ := RST.again (od := od) hR k1.2.1 hqk hT h4 h5 h24 (q.t 15 rfl) (q.t 25 rfl) (q.t 27 rfl) (q.a 99 8 rfl) (q.i 113 7 rfl) hcost
    exact ⟨u, r, q, ⟨j1, j2, j3, ⟨by rw [q.i 100 6 rfl]; exact k4, by rw [q.t 15 rfl, q.i 100 4 rfl]; exact k5⟩, ⟨bf, bt, BZ_keep k6 (q.i 129 19 rfl) (q.i 129 20 rfl) (q.l 146 rfl)⟩, vdf_same k7 (q.i 99 9 rfl) (q.a 99 8 rfl), by rw [q.n 129 10 rfl]; exact ⟨k8, k9⟩⟩, N', us', S', z', p', nf, nm, tm, bs, lv, upv oid qk oi, nw, wa, wn, wi, wk, ou, hR', by omega, fun b s t hb hs' ht' => (hL b s t hb hs' ht').trans (and_congr Iff.rfl (imp_congr Iff.rfl (hmean s t hs' ht')))⟩
/-- a truth without next of what has a place, in all STATES -/
theorem sp_taskE3 (h : um m H) (e : ud m H = U) (hK : RSKL m U Y P f od es a n i) (hi : i < (Y 11).1) (hr : rg Y (im Y i) false a (a + n)) (hs0 : SRT Y es i al a rs n) (hal : ¬ al = 2) (hnx : ¬ NXW Y (U.1 15) P a n i) : mu_TV (mu_D (d + 7)) 257 [.inr (.inr (some 99)), .inl (-1), .inr (.inr (some 126))] H (fun H1 => um m H1 ∧ ur m C H H1 ∧ uq F257 U (ud m H1) ∧ RSKL m (ud m H1) Y P f od es a n i ∧ (∀ s, s < pd f 0 P → (bts ((ud m H1).2.2.2.2.1 126) s = true ↔ ¬ tru Y U f P od i a n s = 0))) := by
  obtain ⟨k1, k2, ⟨S0, K, dp, W, mk, M, rk, l1, l2, l3, l4⟩, ⟨k4, k5⟩, ⟨bf, bt, k6⟩, k7, k8⟩ := hK
  have hP := k1.P14
  refine (sp_evalE (C := C) h e k1.1 k1.2.1 k1.2.2.1 k1.2.2.2.1.1 k1.2.2.2.2.1 k1.2.2.2.1.2.1 k1.2.2.2.1.2.2.1 l1 l2 l3 hnx hi hr hs0 hal (fun c => ⟨VLS_vlz k1.2.2.2.2.2.1 hP k1.2.1, VLS_vlz k1.2.2.2.2.2.1 hP k1.2.1⟩) l4).imp (fun H1 q => ?_)
  obtain ⟨q1, q2, q3, q4, q5, q6⟩ := q
  obtain ⟨j1, j2, j3⟩ := ev_keep2 k1 k2 l1 l2 l3 q3 q6
  refine ⟨q1, q2, q3, ⟨j1, j2, j3, ⟨by rw [q3.i 100 6 rfl]; exact k4, by rw [q3.t 15 rfl, q3.i 100 4 rfl]; exact k5⟩, ⟨bf, bt, BZ_keep k6 (q3.i 129 19 rfl) (q3.i 129 20 rfl) (q3.l 146 rfl)⟩, vdf_same k7 (q3.i 99 9 rfl) (q3.a 99 8 rfl), by rw [q3.n 129 10 rfl]; exact k8⟩, fun s hs => ?_⟩
  unfold bts
  rw [q4 s hs, decide_eq_true_iff, trz_state k1.2.2.2.1.1 k1.2.2.2.2.1 k1.2.2.2.1.2.1 hP l3 hnx hi hr (fun k _ => k1.2.1 k) k1.2.2.2.2.2.2 hs]
/-- a next whose VARIABLE has one VALUE, in all STATES -/
theorem sp_taskC3 {v0 : Nat} (h : um m H) (e : ud m H = U) (hK : RSKL m U Y P f od es a n i) (hi : i < (Y 11).1) (hr : rg Y (im Y i) true a (a + n)) (hs0 : SRT Y es i 0 a rs n) (hv0 : v0 < (Y 15).1) : mu_TV (mu_D (d + 7)) 257 [.inr (.inr (some 99)), .inl (nI v0), .inr (.inr (some 126))] H (fun H1 => um m H1 ∧ ur m C H H1 ∧ uq F257 U (ud m H1) ∧ RSKL m (ud m H1) Y P f od es a n i ∧ (∀ s, s < pd f 0 P → (bts ((ud m H1).2.2.2.2.1 126) s = true ↔ cho Y U f P od i a n v0 s))) := by
  obtain ⟨k1, k2, k3, ⟨k4, k5⟩, ⟨bf, bt, k6⟩, k7, k8⟩ := hK
  refine (sp_taskC2 (C := C) (d := d) h e k1 k2 k3 hi hr hs0 rfl hv0).imp (fun H1 q => ?_)
  obtain ⟨q1, q2, q3, j1, j2, j3, q4, -⟩ := q
  exact ⟨q1, q2, q3, ⟨j1, j2, j3, ⟨by rw [q3.i 100 6 rfl]; exact k4, by rw [q3.t 15 rfl, q3.i 100 4 rfl]; exact k5⟩, ⟨bf, bt, BZ_keep k6 (q3.i 129 19 rfl) (q3.i 129 20 rfl) (q3.l 146 rfl)⟩, vdf_same k7 (q3.i 99 9 rfl) (q3.a 99 8 rfl), by rw [q3.n 129 10 rfl]; exact k8⟩, q4⟩
end Steps
