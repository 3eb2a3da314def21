/-! THE STORE OF SETS: a set laid out -/
theorem um.cPL {m : Nat} {H : mu_H} {V : Ud} {C : Nat → Nat} {p b k q sp : Nat} {f : Nat → Int64} (h : um m H) (e : ud m H = V) (hp : fl p = true) (hf : ∀ k, mu_l H q k = f k) : um m (mu_cpl H q sp p b k) ∧ ur m C H (mu_cpl H q sp p b k) ∧ ud m (mu_cpl H q sp p b k) = upM V p b (fun i => f (sp + i)) k := by
  have z : mu_cpl H q sp p b k = ml_fill H p b (fun i => mu_l H q (sp + i)) k := rfl
  rw [z, show (fun i => mu_l H q (sp + i)) = fun i => f (sp + i) from funext fun i => hf _]
  exact h.fL e hp
theorem sat.q {U V : Ud} {F : Uf} {id st : Nat} {fc : Nat → Int64} (hs : sat U id st fc) (h : uq F U V) (h1 : in2 F.a 113 3 = false) (h2 : F.p = false) : sat V id st fc := by
  obtain ⟨a1, a2, a3, a4⟩ := hs
  have e1 := h.a 113 3 h1
  have e2 := h.2.2.2.2.2 h2
  exact ⟨by rw [e1]; exact a1, by rw [e1]; exact a2, a3, by rw [e2]; exact a4⟩
section Unpack
variable {H : mu_H} {U : Ud} {m d id st x n y E p : Nat} {C : Nat → Nat} {fc L La L0 : Nat → Int64} {S : Nat → Bool}
/-- what the first y parts are -/
def lyd (fc : Nat → Int64) (st E y : Nat) (L0 L : Nat → Int64) : Prop := ∀ t, bts L t = true ↔ bts L0 t = true ∨ ∃ i, i < y ∧ nmzU fc st (E * i) ≤ t ∧ t ≤ nmzU fc st (E * i + E - 1)
theorem lyd_0 : lyd fc st E 0 L L := fun t => ⟨Or.inl, fun z => z.elim id (fun ⟨_, hi, _⟩ => absurd hi (Nat.not_lt_zero _))⟩
theorem lyd_s (h : lyd fc st E y L0 La) (hy : ∀ t, bts L t = true ↔ bts La t = true ∨ (nmzU fc st (E * y) ≤ t ∧ t ≤ nmzU fc st (E * y + E - 1))) : lyd fc st E (y + 1) L0 L := fun t => by
  rw [hy t, h t]
  constructor
  · rintro ((z | ⟨i, a, b⟩) | z)
    · exact Or.inl z
    · exact Or.inr ⟨i, by omega, b⟩
    · exact Or.inr ⟨y, by omega, z⟩
  · rintro (z | ⟨i, a, b⟩)
    · exact Or.inl (Or.inl z)
    · by_cases e : i = y
      · rw [e] at b
        exact Or.inr b
      · exact Or.inl (Or.inr ⟨i, by omega, b⟩)
theorem lyd_e (h : lyd fc st E n L0 L) (hm : mrk fc st E n S) (t : Nat) : bts L t = true ↔ bts L0 t = true ∨ S t = true := by rw [h t, hm.2 t]
theorem bts_or1 (hx : x < 2147483648) (t : Nat) : bts (fun k => if k = x / 64 then La (x / 64) ||| (1 <<< ((nI x).toInt64 &&& 63)) else La k) t = true ↔ bts La t = true ∨ (nmzU fc st (1 * y) ≤ t ∧ t ≤ nmzU fc st (1 * y + 1 - 1) ∨ t = x) ∧ t = x := by
  unfold bts
  show btz (if t / 64 = x / 64 then La (x / 64) ||| (1 <<< ((nI x).toInt64 &&& 63)) else La (t / 64)) (t % 64) = true ↔ _
  by_cases z : t / 64 = x / 64
  · rw [if_pos z, btz_or, btz_shl hx (Nat.mod_lt _ (by decide)), btz_1, ← z, Bool.or_eq_true, Bool.and_eq_true, decide_eq_true_eq, decide_eq_true_eq]
    constructor
    · rintro (k | k)
      · exact Or.inl k
      · have : t = x := by omega
        exact Or.inr ⟨Or.inr this, this⟩
    · rintro (k | k)
      · exact Or.inl k
      · exact Or.inr ⟨by omega, by omega⟩
  · rw [if_neg z]
    constructor
    · exact Or.inl
    · rintro (k | k)
      · exact k
      · exact absurd (by rw [k.2]) z
theorem lyd_1 (h : lyd fc st 1 y L0 La) (hx : nmzU fc st y < 2147483648) : lyd fc st 1 (y + 1) L0 (fun k => if k = nmzU fc st y / 64 then La (nmzU fc st y / 64) ||| (1 <<< ((nI (nmzU fc st y)).toInt64 &&& 63)) else La k) := lyd_s h (fun t => by
  rw [bts_or1 (fc := fc) (st := st) (y := y) hx t, Nat.one_mul, Nat.add_sub_cancel]
  constructor
  · rintro (k | k)
    · exact Or.inl k
    · exact Or.inr ⟨by omega, by omega⟩
  · rintro (k | k)
    · exact Or.inl k
    · have : t = nmzU fc st y := by omega
      exact Or.inr ⟨Or.inr this, this⟩)
theorem lyd_2 (h : lyd fc st 2 y L0 La) (hy : ∀ t, bts L t = (bts La t || decide (nmzU fc st (2 * y) ≤ t ∧ t ≤ nmzU fc st (2 * y + 1)))) : lyd fc st 2 (y + 1) L0 L := lyd_s h (fun t => by
  rw [hy t, Bool.or_eq_true, decide_eq_true_eq]
  exact Iff.rfl)
theorem unp_2 (hz : ∀ x, S x = true ↔ x / 64 < n ∧ btz (fc (st % 8192 + 1 + x / 64)) (x % 64) = true) (hS : ∀ x, S x = true → x < 16384) (hc : ∀ t, t / 64 < n → bts (U.2.2.2.2.1 p) t = false) (t : Nat) : bts ((upM U p 0 (fun i => fc (st % 8192 + 1 + i)) (min 256 n)).2.2.2.2.1 p) t = true ↔ bts (U.2.2.2.2.1 p) t = true ∨ S t = true := by
  unfold bts
  show btz (if p = p ∧ 0 ≤ t / 64 ∧ t / 64 < 0 + min 256 n then fc (st % 8192 + 1 + (t / 64 - 0)) else U.2.2.2.2.1 p (t / 64)) (t % 64) = true ↔ _
  by_cases k : t / 64 < min 256 n
  · rw [if_pos ⟨rfl, Nat.zero_le _, by omega⟩, Nat.sub_zero]
    have c1 : btz (U.2.2.2.2.1 p (t / 64)) (t % 64) = false := hc t (by omega)
    rw [c1, hz t]
    exact ⟨fun z => Or.inr ⟨by omega, z⟩, fun z => z.elim (fun q => by cases q) (fun q => q.2)⟩
  · rw [if_neg (fun z => k (by omega))]
    refine ⟨Or.inl, fun z => z.elim id (fun q => ?_)⟩
    have q1 := hS t q
    have q2 := ((hz t).mp q).1
    omega
def F235a : Uf := ⟨[], [], [], [], [146], false⟩
/-- PathProver$Sets.unpack(I[J)V -/
abbrev mu_m235 : ev_M := (7, none, [], ev_b235)
theorem mu_g235 : mu_good mu_m235 := mu_goodk ev_k235
def F235_146 : Uf := ⟨[], [], [], [], [146], false⟩
theorem st_unp0_146 (h : um m H) (e : ud m H = U) (hs : sat U id st fc) (hz : stz fc st S) (hS : ∀ x, S x = true → x < 16384) (hc : hfm fc st = 2 → ∀ t, t / 64 < hln fc st → bts (U.2.2.2.2.1 146) t = false) (hf : hfm fc st = 0) : mu_TV (mu_D (d + 3)) 235 [.inr (.inr (some 113)), .inl (nI id), .inr (.inr (some 146))] H (fun H1 => um m H1 ∧ ur m C H H1 ∧ uq F235_146 U (ud m H1) ∧ ∀ t, bts ((ud m H1).2.2.2.2.1 146) t = true ↔ bts (U.2.2.2.2.1 146) t = true ∨ S t = true) := by
  obtain ⟨⟨hi1, hi2⟩, hst, hst2, hch⟩ := (show sat U id st fc from hs)
  obtain ⟨hz1, hz2, hz3, hz4, hz5⟩ := hz
  obtain ⟨hm1, hm2, hm3⟩ := hz3 hf
  refine mu_meth (M := mu_m235) rfl rfl ?_
  refine mw_ht (mu_fn_of (show [0, 1, 2].Nodup by decide)) ?_
  refine mw_go mu_g235 (k := 2) (f1 := (2, [(0, .inr (.inr (some 113))), (1, .inl (nI id)), (2, .inr (.inr (some 146)))], [.inl (nI id), .inr (.inr (some 113))], H)) (C := []) rfl trivial ?_
  refine mw_cIe (fun _ => rfl) (show mu_is H (some 113) 11 from (h.1.1.is rfl)) (st_form (d := (d + 1)) h e hs) ?_
  rw [show nI (hfm fc st) = (0 : Int32) from congrArg nI hf]
  refine mw_go mu_g235 (k := 3) (f1 := (8, [(3, .inl (0 : Int32)), (0, .inr (.inr (some 113))), (1, .inl (nI id)), (2, .inr (.inr (some 146)))], [.inl (nI id), .inr (.inr (some 113))], H)) (C := []) rfl trivial ?_
  refine mw_cIe (fun _ => rfl) (show mu_is H (some 113) 11 from (h.1.1.is rfl)) (st_parts (d := (d + 1)) h e hs) ?_
  rw [show nI (hpt fc st) = nI (hsz fc st) from congrArg nI (by unfold hpt; rw [hf]; rfl)]
  have kl := hln_lt (fc := fc) (st := st)
  have kz := hsz_lt (fc := fc) (st := st)
  refine mw_go mu_g235 (k := 3) (f1 := (15, [(4, .inl (nI (hsz fc st))), (3, .inl (0 : Int32)), (0, .inr (.inr (some 113))), (1, .inl (nI id)), (2, .inr (.inr (some 146)))], [.inl (2 : Int32), .inl (0 : Int32)], H)) (C := []) rfl trivial ?_
  refine mw_if (P := (0 : Int32) = (2 : Int32)) (a := 18) (b := 58) (fun _ => rfl) trivial (fun h3 => absurd h3 (by decide)) (fun h3 => ?_)
  refine mw_go mu_g235 (k := 2) (f1 := (61, [(5, .inl (0 : Int32)), (4, .inl (nI (hsz fc st))), (3, .inl (0 : Int32)), (0, .inr (.inr (some 113))), (1, .inl (nI id)), (2, .inr (.inr (some 146)))], [], H)) (C := []) rfl trivial ?_
  show mu_W _ _ (61, [(5, .inl (nI 0)), (4, .inl (nI (hsz fc st))), (3, .inl (0 : Int32)), (0, .inr (.inr (some 113))), (1, .inl (nI id)), (2, .inr (.inr (some 146)))], [], H) _
  refine mw_sub (L' := [(5, .inl (nI 0)), (0, .inr (.inr (some 113))), (1, .inl (nI id)), (2, .inr (.inr (some 146))), (3, .inl (0 : Int32)), (4, .inl (nI (hsz fc st)))]) (by simp) ?_
  refine mw_down (α := Nat × mu_H) (fun zs => (61, [(5, .inl (nI zs.1)), (0, .inr (.inr (some 113))), (1, .inl (nI id)), (2, .inr (.inr (some 146))), (3, .inl (0 : Int32)), (4, .inl (nI (hsz fc st)))], [], zs.2)) (fun zs => hsz fc st - zs.1) (fun zs => um m zs.2 ∧ ur m C H zs.2 ∧ (uq F235a U (ud m zs.2)) ∧ (zs.1 ≤ hsz fc st) ∧ (lyd fc st 1 zs.1 (U.2.2.2.2.1 146) ((ud m zs.2).2.2.2.2.1 146))) (fun zs hza iha => ?_) (0, H) ⟨h, (ur.refl m C H), (show uq F235a U (ud m H) from by rw [e]; exact uq.refl _ _), (show 0 ≤ hsz fc st from (by omega)), (show lyd fc st 1 0 (U.2.2.2.2.1 146) ((ud m H).2.2.2.2.1 146) from by rw [e]; exact lyd_0)⟩
  obtain ⟨y, Hsa⟩ := zs
  obtain ⟨ua, hta, da, hw, hB⟩ := hza
  have ua : um m Hsa := ua
  have hta : ur m C H Hsa := hta
  have zza : uq F235a U (ud m Hsa) := da
  have hw : y ≤ hsz fc st := hw
  have hB : lyd fc st 1 y (U.2.2.2.2.1 146) ((ud m Hsa).2.2.2.2.1 146) := hB
  obtain ⟨Va, da⟩ : ∃ V, ud m Hsa = V := ⟨_, rfl⟩
  rw [da] at zza hB
  have qfa : uq F235_146 U Va := (uq.refl F235_146 U).tr zza rfl
  show mu_W _ _ (61, [(5, .inl (nI y)), (0, .inr (.inr (some 113))), (1, .inl (nI id)), (2, .inr (.inr (some 146))), (3, .inl (0 : Int32)), (4, .inl (nI (hsz fc st)))], [], Hsa) _
  refine mw_go mu_g235 (k := 2) (f1 := (65, [(5, .inl (nI y)), (0, .inr (.inr (some 113))), (1, .inl (nI id)), (2, .inr (.inr (some 146))), (3, .inl (0 : Int32)), (4, .inl (nI (hsz fc st)))], [.inl (nI (hsz fc st)), .inl (nI y)], Hsa)) (C := []) rfl trivial ?_
  refine mw_if (P := (nI y) < (nI (hsz fc st))) (a := 68) (b := 128) (fun _ => rfl) trivial (fun h4 => ?_) (fun h4 => ?_)
  · -- 68: (nI y) < (nI (hsz fc st))
    have nh4 : y < (hsz fc st) := (nI_ltI (by omega) (by omega)).mp (show nI y < nI (hsz fc st) from h4)
    refine mw_go mu_g235 (k := 1) (f1 := (69, [(5, .inl (nI y)), (0, .inr (.inr (some 113))), (1, .inl (nI id)), (2, .inr (.inr (some 146))), (3, .inl (0 : Int32)), (4, .inl (nI (hsz fc st)))], [.inl (0 : Int32)], Hsa)) (C := []) rfl trivial ?_
    refine mw_if (P := (0 : Int32) = 0) (a := 72) (b := 98) (fun _ => rfl) trivial (fun h5 => ?_) (fun h5 => absurd (by decide) h5)
    refine mw_go mu_g235 (k := 3) (f1 := (76, [(5, .inl (nI y)), (0, .inr (.inr (some 113))), (1, .inl (nI id)), (2, .inr (.inr (some 146))), (3, .inl (0 : Int32)), (4, .inl (nI (hsz fc st)))], [.inl (nI y), .inl (nI id), .inr (.inr (some 113))], Hsa)) (C := []) rfl trivial ?_
    refine mw_cIe (fun _ => rfl) (show mu_is Hsa (some 113) 11 from (ua.1.1.is rfl)) (st_num (d := (d + 1)) (p := y) ua da (hs.q zza rfl rfl) (by omega) (by omega)) ?_
    have kn6 : nmzU fc st y < 16384 := hS _ ((hm3.2 _).mpr ⟨y, by omega, by rw [Nat.one_mul]; exact Nat.le_refl _, by rw [Nat.one_mul]; exact Nat.le_refl _⟩)
    refine mw_go mu_g235 (k := 5) (f1 := (87, [(6, .inl (nI (nmzU fc st y))), (5, .inl (nI y)), (0, .inr (.inr (some 113))), (1, .inl (nI id)), (2, .inr (.inr (some 146))), (3, .inl (0 : Int32)), (4, .inl (nI (hsz fc st)))], [.inl ((nI (nmzU fc st y)) >>> ((6 : Int32) &&& 31)), .inr (.inr (some 146))], Hsa)) (C := []) rfl trivial ?_
    rw [(show ((nI (nmzU fc st y)) >>> ((6 : Int32) &&& 31)) = (nI ((nmzU fc st y) / 64)) from (nI_shr6 (a := nmzU fc st y) (by omega)))]
    refine mw_go mu_g235 (k := 2) (f1 := (89, [(6, .inl (nI (nmzU fc st y))), (5, .inl (nI y)), (0, .inr (.inr (some 113))), (1, .inl (nI id)), (2, .inr (.inr (some 146))), (3, .inl (0 : Int32)), (4, .inl (nI (hsz fc st)))], [.inr (.inl (mu_l Hsa 146 (nI ((nmzU fc st y) / 64)).toNatClampNeg)), .inl (nI ((nmzU fc st y) / 64)), .inr (.inr (some 146))], Hsa)) (C := [mu_isr Hsa (some 146) 102, vp_in (nI ((nmzU fc st y) / 64)) (mu_n Hsa 146)]) rfl (show (mu_isr Hsa (some 146) 102) ∧ (vp_in (nI ((nmzU fc st y) / 64)) (mu_n Hsa 146)) from ⟨((ua.1.1.a (p := 146) (x := (102, 256)) rfl).1).r, (by rw [show mu_n Hsa 146 = 256 from (ua.1.1.a (p := 146) (x := (102, 256)) rfl).2]; exact vp_in_nI (n := (nmzU fc st y) / 64) (by omega) (by decide))⟩) ?_
    rw [(show (mu_l Hsa 146 (nI ((nmzU fc st y) / 64)).toNatClampNeg) = (Va.2.2.2.2.1 146) ((nmzU fc st y) / 64) from (congrArg (mu_l Hsa 146) (show (nI ((nmzU fc st y) / 64)).toNatClampNeg = (nmzU fc st y) / 64 from nI_clamp (by omega))).trans ((ud_l (m := m) (p := 146) (i := ((nmzU fc st y) / 64)) da rfl).trans (congrFun (show Va.2.2.2.2.1 146 = (Va.2.2.2.2.1 146) from rfl) ((nmzU fc st y) / 64))))]
    refine mw_go mu_g235 (k := 5) (f1 := (95, [(6, .inl (nI (nmzU fc st y))), (5, .inl (nI y)), (0, .inr (.inr (some 113))), (1, .inl (nI id)), (2, .inr (.inr (some 146))), (3, .inl (0 : Int32)), (4, .inl (nI (hsz fc st)))], [], (mu_sl Hsa 146 (nI ((nmzU fc st y) / 64)).toNatClampNeg (((Va.2.2.2.2.1 146) ((nmzU fc st y) / 64)) ||| ((1 : Int64) <<< ((nI (nmzU fc st y)).toInt64 &&& 63)))))) (C := [mu_is Hsa (some 146) 102, vp_in (nI ((nmzU fc st y) / 64)) (mu_n Hsa 146)]) rfl (show (mu_is Hsa (some 146) 102) ∧ (vp_in (nI ((nmzU fc st y) / 64)) (mu_n Hsa 146)) from ⟨((ua.1.1.a (p := 146) (x := (102, 256)) rfl).1), (by rw [show mu_n Hsa 146 = 256 from (ua.1.1.a (p := 146) (x := (102, 256)) rfl).2]; exact vp_in_nI (n := (nmzU fc st y) / 64) (by omega) (by decide))⟩) ?_
    rw [(show (nI ((nmzU fc st y) / 64)).toNatClampNeg = (nmzU fc st y) / 64 from nI_clamp (by omega))]
    obtain ⟨u7, r7, d7⟩ : um m (mu_sl Hsa 146 ((nmzU fc st y) / 64) (((Va.2.2.2.2.1 146) ((nmzU fc st y) / 64)) ||| ((1 : Int64) <<< ((nI (nmzU fc st y)).toInt64 &&& 63)))) ∧ ur m C Hsa (mu_sl Hsa 146 ((nmzU fc st y) / 64) (((Va.2.2.2.2.1 146) ((nmzU fc st y) / 64)) ||| ((1 : Int64) <<< ((nI (nmzU fc st y)).toInt64 &&& 63)))) ∧ ud m (mu_sl Hsa 146 ((nmzU fc st y) / 64) (((Va.2.2.2.2.1 146) ((nmzU fc st y) / 64)) ||| ((1 : Int64) <<< ((nI (nmzU fc st y)).toInt64 &&& 63)))) = (upL Va 146 ((nmzU fc st y) / 64) (((Va.2.2.2.2.1 146) ((nmzU fc st y) / 64)) ||| ((1 : Int64) <<< ((nI (nmzU fc st y)).toInt64 &&& 63)))) := ua.sL (C := C) da rfl
    generalize (mu_sl Hsa 146 ((nmzU fc st y) / 64) (((Va.2.2.2.2.1 146) ((nmzU fc st y) / 64)) ||| ((1 : Int64) <<< ((nI (nmzU fc st y)).toInt64 &&& 63)))) = Q7 at u7 r7 d7 ⊢
    have qf7 : uq F235_146 U (upL Va 146 ((nmzU fc st y) / 64) (((Va.2.2.2.2.1 146) ((nmzU fc st y) / 64)) ||| ((1 : Int64) <<< ((nI (nmzU fc st y)).toInt64 &&& 63)))) := qfa.L rfl
    have ht7 : ur m C H Q7 := hta.trans r7
    refine mw_go mu_g235 (k := 2) (f1 := (125, [(5, .inl ((nI y) + 1)), (6, .inl (nI (nmzU fc st y))), (0, .inr (.inr (some 113))), (1, .inl (nI id)), (2, .inr (.inr (some 146))), (3, .inl (0 : Int32)), (4, .inl (nI (hsz fc st)))], [], Q7)) (C := []) rfl trivial ?_
    rw [(show ((nI y) + 1) = (nI (y + 1)) from (nI_add y 1))]
    refine mw_go mu_g235 (k := 1) (f1 := (61, [(5, .inl (nI (y + 1))), (6, .inl (nI (nmzU fc st y))), (0, .inr (.inr (some 113))), (1, .inl (nI id)), (2, .inr (.inr (some 146))), (3, .inl (0 : Int32)), (4, .inl (nI (hsz fc st)))], [], Q7)) (C := []) rfl trivial ?_
    exact mw_sub (by simp) (iha (y + 1, Q7) ⟨u7, ht7, (show uq F235a U (ud m Q7) from by rw [d7]; exact (zza.L rfl)), (show (y + 1) ≤ hsz fc st from (by omega)), (show lyd fc st 1 (y + 1) (U.2.2.2.2.1 146) ((ud m Q7).2.2.2.2.1 146) from by rw [d7]; exact (by rw [upL_at]; exact lyd_1 hB (by omega)))⟩ (by show hsz fc st - (y + 1) < hsz fc st - y; omega))
  · -- 128: not (nI y) < (nI (hsz fc st))
    have nh4 : ¬ y < (hsz fc st) := fun z => h4 (show nI y < nI (hsz fc st) from (nI_ltI (by omega) (by omega)).mpr z)
    exact mw_of (fun _ => mu_ret rfl trivial ⟨Hsa, rfl, ua, hta, (by rw [da]; exact qfa), (by rw [da]; exact lyd_e (n := y) hB (by rw [show y = hsz fc st by omega]; exact hm3))⟩)

theorem st_unp1_146 (h : um m H) (e : ud m H = U) (hs : sat U id st fc) (hz : stz fc st S) (hS : ∀ x, S x = true → x < 16384) (hc : hfm fc st = 2 → ∀ t, t / 64 < hln fc st → bts (U.2.2.2.2.1 146) t = false) (hf : hfm fc st = 1) : mu_TV (mu_D (d + 3)) 235 [.inr (.inr (some 113)), .inl (nI id), .inr (.inr (some 146))] H (fun H1 => um m H1 ∧ ur m C H H1 ∧ uq F235_146 U (ud m H1) ∧ ∀ t, bts ((ud m H1).2.2.2.2.1 146) t = true ↔ bts (U.2.2.2.2.1 146) t = true ∨ S t = true) := by
  obtain ⟨⟨hi1, hi2⟩, hst, hst2, hch⟩ := (show sat U id st fc from hs)
  obtain ⟨hz1, hz2, hz3, hz4, hz5⟩ := hz
  obtain ⟨hm2, hm3⟩ := hz4 hf
  refine mu_meth (M := mu_m235) rfl rfl ?_
  refine mw_ht (mu_fn_of (show [0, 1, 2].Nodup by decide)) ?_
  refine mw_go mu_g235 (k := 2) (f1 := (2, [(0, .inr (.inr (some 113))), (1, .inl (nI id)), (2, .inr (.inr (some 146)))], [.inl (nI id), .inr (.inr (some 113))], H)) (C := []) rfl trivial ?_
  refine mw_cIe (fun _ => rfl) (show mu_is H (some 113) 11 from (h.1.1.is rfl)) (st_form (d := (d + 1)) h e hs) ?_
  rw [show nI (hfm fc st) = (1 : Int32) from congrArg nI hf]
  refine mw_go mu_g235 (k := 3) (f1 := (8, [(3, .inl (1 : Int32)), (0, .inr (.inr (some 113))), (1, .inl (nI id)), (2, .inr (.inr (some 146)))], [.inl (nI id), .inr (.inr (some 113))], H)) (C := []) rfl trivial ?_
  refine mw_cIe (fun _ => rfl) (show mu_is H (some 113) 11 from (h.1.1.is rfl)) (st_parts (d := (d + 1)) h e hs) ?_
  rw [show nI (hpt fc st) = nI (2 * hln fc st) from congrArg nI (by unfold hpt; rw [hf]; rfl)]
  have kl := hln_lt (fc := fc) (st := st)
  have kz := hsz_lt (fc := fc) (st := st)
  refine mw_go mu_g235 (k := 3) (f1 := (15, [(4, .inl (nI (2 * hln fc st))), (3, .inl (1 : Int32)), (0, .inr (.inr (some 113))), (1, .inl (nI id)), (2, .inr (.inr (some 146)))], [.inl (2 : Int32), .inl (1 : Int32)], H)) (C := []) rfl trivial ?_
  refine mw_if (P := (1 : Int32) = (2 : Int32)) (a := 18) (b := 58) (fun _ => rfl) trivial (fun h3 => absurd h3 (by decide)) (fun h3 => ?_)
  refine mw_go mu_g235 (k := 2) (f1 := (61, [(5, .inl (0 : Int32)), (4, .inl (nI (2 * hln fc st))), (3, .inl (1 : Int32)), (0, .inr (.inr (some 113))), (1, .inl (nI id)), (2, .inr (.inr (some 146)))], [], H)) (C := []) rfl trivial ?_
  show mu_W _ _ (61, [(5, .inl (nI 0)), (4, .inl (nI (2 * hln fc st))), (3, .inl (1 : Int32)), (0, .inr (.inr (some 113))), (1, .inl (nI id)), (2, .inr (.inr (some 146)))], [], H) _
  refine mw_sub (L' := [(5, .inl (nI 0)), (0, .inr (.inr (some 113))), (1, .inl (nI id)), (2, .inr (.inr (some 146))), (3, .inl (1 : Int32)), (4, .inl (nI (2 * hln fc st)))]) (by simp) ?_
  refine mw_down (α := Nat × mu_H) (fun zs => (61, [(5, .inl (nI zs.1)), (0, .inr (.inr (some 113))), (1, .inl (nI id)), (2, .inr (.inr (some 146))), (3, .inl (1 : Int32)), (4, .inl (nI (2 * hln fc st)))], [], zs.2)) (fun zs => 2 * hln fc st - zs.1) (fun zs => um m zs.2 ∧ ur m C H zs.2 ∧ (uq F235a U (ud m zs.2)) ∧ (zs.1 ≤ 2 * hln fc st) ∧ (lyd fc st 2 zs.1 (U.2.2.2.2.1 146) ((ud m zs.2).2.2.2.2.1 146))) (fun zs hza iha => ?_) (0, H) ⟨h, (ur.refl m C H), (show uq F235a U (ud m H) from by rw [e]; exact uq.refl _ _), (show 0 ≤ 2 * hln fc st from (by omega)), (show lyd fc st 2 0 (U.2.2.2.2.1 146) ((ud m H).2.2.2.2.1 146) from by rw [e]; exact lyd_0)⟩
  obtain ⟨y, Hsa⟩ := zs
  obtain ⟨ua, hta, da, hw, hB⟩ := hza
  have ua : um m Hsa := ua
  have hta : ur m C H Hsa := hta
  have zza : uq F235a U (ud m Hsa) := da
  have hw : y ≤ 2 * hln fc st := hw
  have hB : lyd fc st 2 y (U.2.2.2.2.1 146) ((ud m Hsa).2.2.2.2.1 146) := hB
  obtain ⟨Va, da⟩ : ∃ V, ud m Hsa = V := ⟨_, rfl⟩
  rw [da] at zza hB
  have qfa : uq F235_146 U Va := (uq.refl F235_146 U).tr zza rfl
  show mu_W _ _ (61, [(5, .inl (nI y)), (0, .inr (.inr (some 113))), (1, .inl (nI id)), (2, .inr (.inr (some 146))), (3, .inl (1 : Int32)), (4, .inl (nI (2 * hln fc st)))], [], Hsa) _
  refine mw_go mu_g235 (k := 2) (f1 := (65, [(5, .inl (nI y)), (0, .inr (.inr (some 113))), (1, .inl (nI id)), (2, .inr (.inr (some 146))), (3, .inl (1 : Int32)), (4, .inl (nI (2 * hln fc st)))], [.inl (nI (2 * hln fc st)), .inl (nI y)], Hsa)) (C := []) rfl trivial ?_
  refine mw_if (P := (nI y) < (nI (2 * hln fc st))) (a := 68) (b := 128) (fun _ => rfl) trivial (fun h4 => ?_) (fun h4 => ?_)
  · -- 68: (nI y) < (nI (2 * hln fc st))
    have nh4 : y < (2 * hln fc st) := (nI_ltI (by omega) (by omega)).mp (show nI y < nI (2 * hln fc st) from h4)
    refine mw_go mu_g235 (k := 1) (f1 := (69, [(5, .inl (nI y)), (0, .inr (.inr (some 113))), (1, .inl (nI id)), (2, .inr (.inr (some 146))), (3, .inl (1 : Int32)), (4, .inl (nI (2 * hln fc st)))], [.inl (1 : Int32)], Hsa)) (C := []) rfl trivial ?_
    refine mw_if (P := (1 : Int32) = 0) (a := 72) (b := 98) (fun _ => rfl) trivial (fun h5 => absurd h5 (by decide)) (fun h5 => ?_)
    refine mw_go mu_g235 (k := 6) (f1 := (105, [(5, .inl (nI y)), (0, .inr (.inr (some 113))), (1, .inl (nI id)), (2, .inr (.inr (some 146))), (3, .inl (1 : Int32)), (4, .inl (nI (2 * hln fc st)))], [.inl ((2 : Int32) * (nI y)), .inl (nI id), .inr (.inr (some 113)), .inr (.inr (some 146))], Hsa)) (C := []) rfl trivial ?_
    rw [(show ((2 : Int32) * (nI y)) = (nI (2 * y)) from (nI_mul (a := 2) (b := y)))]
    refine mw_cIe (fun _ => rfl) (show mu_is Hsa (some 113) 11 from (ua.1.1.is rfl)) (st_num (d := (d + 1)) (p := 2 * y) ua da (hs.q zza rfl rfl) (by omega) (by omega)) ?_
    have kn6 : nmzU fc st (2 * y) < 16384 := hS _ ((hm3.2 _).mpr ⟨y, by omega, Nat.le_refl _, hm2 y (by omega)⟩)
    refine mw_go mu_g235 (k := 5) (f1 := (114, [(5, .inl (nI y)), (0, .inr (.inr (some 113))), (1, .inl (nI id)), (2, .inr (.inr (some 146))), (3, .inl (1 : Int32)), (4, .inl (nI (2 * hln fc st)))], [.inl ((2 : Int32) * (nI y)), .inl (nI id), .inr (.inr (some 113)), .inl (nI (nmzU fc st (2 * y))), .inr (.inr (some 146))], Hsa)) (C := []) rfl trivial ?_
    rw [(show ((2 : Int32) * (nI y)) = (nI (2 * y)) from (nI_mul (a := 2) (b := y)))]
    refine mw_go mu_g235 (k := 2) (f1 := (116, [(5, .inl (nI y)), (0, .inr (.inr (some 113))), (1, .inl (nI id)), (2, .inr (.inr (some 146))), (3, .inl (1 : Int32)), (4, .inl (nI (2 * hln fc st)))], [.inl ((nI (2 * y)) + (1 : Int32)), .inl (nI id), .inr (.inr (some 113)), .inl (nI (nmzU fc st (2 * y))), .inr (.inr (some 146))], Hsa)) (C := []) rfl trivial ?_
    rw [(show ((nI (2 * y)) + (1 : Int32)) = (nI ((2 * y) + 1)) from (nI_add (2 * y) 1))]
    refine mw_cIe (fun _ => rfl) (show mu_is Hsa (some 113) 11 from (ua.1.1.is rfl)) (st_num (d := (d + 1)) (p := (2 * y) + 1) ua da (hs.q zza rfl rfl) (by omega) (by omega)) ?_
    have kn7 : nmzU fc st ((2 * y) + 1) < 16384 := hS _ ((hm3.2 _).mpr ⟨y, by omega, hm2 y (by omega), Nat.le_refl _⟩)
    refine mw_cV (fun _ => rfl) trivial (st_lay146 (d := d) (C := C) (a := nmzU fc st (2 * y)) (b := nmzU fc st ((2 * y) + 1)) ua da (hm2 y (by omega)) (by omega)) (fun Q8 q8 => ?_)
    obtain ⟨u8, r8, z8, hy⟩ := q8
    have ht8 : ur m C H Q8 := hta.trans r8
    obtain ⟨V8, d8⟩ : ∃ V, ud m Q8 = V := ⟨_, rfl⟩
    rw [d8] at z8 hy
    have qf8 : uq F235_146 U V8 := qfa.tr z8 rfl
    refine mw_go mu_g235 (k := 1) (f1 := (125, [(5, .inl ((nI y) + 1)), (0, .inr (.inr (some 113))), (1, .inl (nI id)), (2, .inr (.inr (some 146))), (3, .inl (1 : Int32)), (4, .inl (nI (2 * hln fc st)))], [], Q8)) (C := []) rfl trivial ?_
    rw [(show ((nI y) + 1) = (nI (y + 1)) from (nI_add y 1))]
    refine mw_go mu_g235 (k := 1) (f1 := (61, [(5, .inl (nI (y + 1))), (0, .inr (.inr (some 113))), (1, .inl (nI id)), (2, .inr (.inr (some 146))), (3, .inl (1 : Int32)), (4, .inl (nI (2 * hln fc st)))], [], Q8)) (C := []) rfl trivial ?_
    exact mw_sub (by simp) (iha (y + 1, Q8) ⟨u8, ht8, (show uq F235a U (ud m Q8) from by rw [d8]; exact (zza.tr z8 rfl)), (show (y + 1) ≤ 2 * hln fc st from (by omega)), (show lyd fc st 2 (y + 1) (U.2.2.2.2.1 146) ((ud m Q8).2.2.2.2.1 146) from by rw [d8]; exact (lyd_2 hB hy))⟩ (by show 2 * hln fc st - (y + 1) < 2 * hln fc st - y; omega))
  · -- 128: not (nI y) < (nI (2 * hln fc st))
    have nh4 : ¬ y < (2 * hln fc st) := fun z => h4 (show nI y < nI (2 * hln fc st) from (nI_ltI (by omega) (by omega)).mpr z)
    exact mw_of (fun _ => mu_ret rfl trivial ⟨Hsa, rfl, ua, hta, (by rw [da]; exact qfa), (by rw [da]; exact lyd_e (n := y) hB (by rw [show y = 2 * hln fc st by omega]; exact hm3))⟩)

theorem st_unp2_146 (h : um m H) (e : ud m H = U) (hs : sat U id st fc) (hz : stz fc st S) (hS : ∀ x, S x = true → x < 16384) (hc : hfm fc st = 2 → ∀ t, t / 64 < hln fc st → bts (U.2.2.2.2.1 146) t = false) (hf : hfm fc st = 2) : mu_TV (mu_D (d + 3)) 235 [.inr (.inr (some 113)), .inl (nI id), .inr (.inr (some 146))] H (fun H1 => um m H1 ∧ ur m C H H1 ∧ uq F235_146 U (ud m H1) ∧ ∀ t, bts ((ud m H1).2.2.2.2.1 146) t = true ↔ bts (U.2.2.2.2.1 146) t = true ∨ S t = true) := by
  obtain ⟨⟨hi1, hi2⟩, hst, hst2, hch⟩ := (show sat U id st fc from hs)
  obtain ⟨hz1, hz2, hz3, hz4, hz5⟩ := hz
  have hm3 := hz5 hf
  refine mu_meth (M := mu_m235) rfl rfl ?_
  refine mw_ht (mu_fn_of (show [0, 1, 2].Nodup by decide)) ?_
  refine mw_go mu_g235 (k := 2) (f1 := (2, [(0, .inr (.inr (some 113))), (1, .inl (nI id)), (2, .inr (.inr (some 146)))], [.inl (nI id), .inr (.inr (some 113))], H)) (C := []) rfl trivial ?_
  refine mw_cIe (fun _ => rfl) (show mu_is H (some 113) 11 from (h.1.1.is rfl)) (st_form (d := (d + 1)) h e hs) ?_
  rw [show nI (hfm fc st) = (2 : Int32) from congrArg nI hf]
  refine mw_go mu_g235 (k := 3) (f1 := (8, [(3, .inl (2 : Int32)), (0, .inr (.inr (some 113))), (1, .inl (nI id)), (2, .inr (.inr (some 146)))], [.inl (nI id), .inr (.inr (some 113))], H)) (C := []) rfl trivial ?_
  refine mw_cIe (fun _ => rfl) (show mu_is H (some 113) 11 from (h.1.1.is rfl)) (st_parts (d := (d + 1)) h e hs) ?_
  rw [show nI (hpt fc st) = nI (hln fc st) from congrArg nI (by unfold hpt; rw [hf]; rfl)]
  have kl := hln_lt (fc := fc) (st := st)
  have kz := hsz_lt (fc := fc) (st := st)
  refine mw_go mu_g235 (k := 3) (f1 := (15, [(4, .inl (nI (hln fc st))), (3, .inl (2 : Int32)), (0, .inr (.inr (some 113))), (1, .inl (nI id)), (2, .inr (.inr (some 146)))], [.inl (2 : Int32), .inl (2 : Int32)], H)) (C := []) rfl trivial ?_
  refine mw_if (P := (2 : Int32) = (2 : Int32)) (a := 18) (b := 58) (fun _ => rfl) trivial (fun h3 => ?_) (fun h3 => absurd (by decide) h3)
  refine mw_go mu_g235 (k := 2) (f1 := (22, [(4, .inl (nI (hln fc st))), (3, .inl (2 : Int32)), (0, .inr (.inr (some 113))), (1, .inl (nI id)), (2, .inr (.inr (some 146)))], [.inr (.inr (mu_r H 113 0))], H)) (C := [mu_is H (some 113) 11]) rfl (show mu_is H (some 113) 11 from (h.1.1.is rfl)) ?_
  rw [(h.1.1.r (p := 113) (j := 0) (q := 114) rfl)]
  refine mw_go mu_g235 (k := 2) (f1 := (26, [(4, .inl (nI (hln fc st))), (3, .inl (2 : Int32)), (0, .inr (.inr (some 113))), (1, .inl (nI id)), (2, .inr (.inr (some 146)))], [.inr (.inr (mu_r H 113 3)), .inr (.inr (some 114))], H)) (C := [mu_is H (some 113) 11]) rfl (show mu_is H (some 113) 11 from (h.1.1.is rfl)) ?_
  rw [(show mu_r H 113 3 = (U.2.2.2.1 113 3) from (ud_q (U := U) (m := m) (P := 113) (j := 3) e rfl))]
  refine mw_go mu_g235 (k := 2) (f1 := (28, [(4, .inl (nI (hln fc st))), (3, .inl (2 : Int32)), (0, .inr (.inr (some 113))), (1, .inl (nI id)), (2, .inr (.inr (some 146)))], [.inl (mu_i H (mu_p (U.2.2.2.1 113 3)) (nI id).toNatClampNeg), .inr (.inr (some 114))], H)) (C := [mu_isr H (U.2.2.2.1 113 3) 100, vp_in (nI id) (mu_n H (mu_p (U.2.2.2.1 113 3)))]) rfl (show (mu_isr H (U.2.2.2.1 113 3) 100) ∧ (vp_in (nI id) (mu_n H (mu_p (U.2.2.2.1 113 3)))) from ⟨((h.iA e rfl rfl (show U.2.2.2.1 113 3 = (U.2.2.2.1 113 3) from rfl))).r, (h.vA (i := id) e rfl rfl (show U.2.2.2.1 113 3 = (U.2.2.2.1 113 3) from rfl) (show (U.2.2.1 113 3).1 = (U.2.2.1 113 3).1 from rfl) (by omega) (by omega))⟩) ?_
  rw [(show (mu_i H (mu_p (U.2.2.2.1 113 3)) (nI id).toNatClampNeg) = (nI st) from ((congrArg (mu_i H (mu_p (U.2.2.2.1 113 3))) (show (nI id).toNatClampNeg = id from nI_clamp (by omega))).trans (h.gA e rfl rfl (show U.2.2.2.1 113 3 = (U.2.2.2.1 113 3) from rfl))).trans ((congrArg (fun z => z.2 id) (show U.2.2.1 113 3 = (U.2.2.1 113 3) from rfl)).trans hst))]
  refine mw_go mu_g235 (k := 2) (f1 := (32, [(4, .inl (nI (hln fc st))), (3, .inl (2 : Int32)), (0, .inr (.inr (some 113))), (1, .inl (nI id)), (2, .inr (.inr (some 146)))], [.inl ((nI st) / (8192 : Int32)), .inr (.inr (some 114))], H)) (C := [¬ (8192 : Int32) = 0]) rfl (show ¬ (8192 : Int32) = 0 from (by decide)) ?_
  rw [(show ((nI st) / (8192 : Int32)) = (nI (st / 8192)) from (nI_div (a := st) (b := 8192) (by omega) (by omega)))]
  obtain ⟨cq4, ka4, kb4, kc4, kd4⟩ := um.gP h e (plp114 (show st / 8192 < 184 by omega)) (show U.2.2.2.2.2 114 (st / 8192) = some (8192, fc) from hch)
  refine mw_go mu_g235 (k := 1) (f1 := (33, [(4, .inl (nI (hln fc st))), (3, .inl (2 : Int32)), (0, .inr (.inr (some 113))), (1, .inl (nI id)), (2, .inr (.inr (some 146)))], [.inr (.inr (mu_r H 114 (nI (st / 8192)).toNatClampNeg))], H)) (C := [mu_is H (some 114) (mu_k H 114), 103 ≤ mu_k H 114 ∧ mu_k H 114 ≤ 110 ∧ mu_k H 114 ≠ 108, vp_in (nI (st / 8192)) (mu_n H 114)]) rfl (show (mu_is H (some 114) (mu_k H 114)) ∧ (103 ≤ mu_k H 114 ∧ mu_k H 114 ≤ 110 ∧ mu_k H 114 ≠ 108) ∧ (vp_in (nI (st / 8192)) (mu_n H 114)) from ⟨(by have z := (h.1.1.a (p := 114) (x := (104, 184)) rfl).1; rw [show mu_k H 114 = 104 from z.2.2]; exact z), (by have z := (h.1.1.a (p := 114) (x := (104, 184)) rfl).1; rw [show mu_k H 114 = 104 from z.2.2]; decide), (by rw [show mu_n H 114 = 184 from (h.1.1.a (p := 114) (x := (104, 184)) rfl).2]; exact vp_in_nI (n := st / 8192) (by omega) (by decide))⟩) ?_
  rw [(show (mu_r H 114 (nI (st / 8192)).toNatClampNeg) = some cq4 from (congrArg (mu_r H 114) (show (nI (st / 8192)).toNatClampNeg = st / 8192 from nI_clamp (by omega))).trans ka4)]
  refine mw_go mu_g235 (k := 2) (f1 := (37, [(4, .inl (nI (hln fc st))), (3, .inl (2 : Int32)), (0, .inr (.inr (some 113))), (1, .inl (nI id)), (2, .inr (.inr (some 146)))], [.inr (.inr (mu_r H 113 3)), .inr (.inr (some cq4))], H)) (C := [mu_is H (some 113) 11]) rfl (show mu_is H (some 113) 11 from (h.1.1.is rfl)) ?_
  rw [(show mu_r H 113 3 = (U.2.2.2.1 113 3) from (ud_q (U := U) (m := m) (P := 113) (j := 3) e rfl))]
  refine mw_go mu_g235 (k := 2) (f1 := (39, [(4, .inl (nI (hln fc st))), (3, .inl (2 : Int32)), (0, .inr (.inr (some 113))), (1, .inl (nI id)), (2, .inr (.inr (some 146)))], [.inl (mu_i H (mu_p (U.2.2.2.1 113 3)) (nI id).toNatClampNeg), .inr (.inr (some cq4))], H)) (C := [mu_isr H (U.2.2.2.1 113 3) 100, vp_in (nI id) (mu_n H (mu_p (U.2.2.2.1 113 3)))]) rfl (show (mu_isr H (U.2.2.2.1 113 3) 100) ∧ (vp_in (nI id) (mu_n H (mu_p (U.2.2.2.1 113 3)))) from ⟨((h.iA e rfl rfl (show U.2.2.2.1 113 3 = (U.2.2.2.1 113 3) from rfl))).r, (h.vA (i := id) e rfl rfl (show U.2.2.2.1 113 3 = (U.2.2.2.1 113 3) from rfl) (show (U.2.2.1 113 3).1 = (U.2.2.1 113 3).1 from rfl) (by omega) (by omega))⟩) ?_
  rw [(show (mu_i H (mu_p (U.2.2.2.1 113 3)) (nI id).toNatClampNeg) = (nI st) from ((congrArg (mu_i H (mu_p (U.2.2.2.1 113 3))) (show (nI id).toNatClampNeg = id from nI_clamp (by omega))).trans (h.gA e rfl rfl (show U.2.2.2.1 113 3 = (U.2.2.2.1 113 3) from rfl))).trans ((congrArg (fun z => z.2 id) (show U.2.2.1 113 3 = (U.2.2.1 113 3) from rfl)).trans hst))]
  refine mw_go mu_g235 (k := 2) (f1 := (43, [(4, .inl (nI (hln fc st))), (3, .inl (2 : Int32)), (0, .inr (.inr (some 113))), (1, .inl (nI id)), (2, .inr (.inr (some 146)))], [.inl ((nI st) - (nI st) / (8192 : Int32) * (8192 : Int32)), .inr (.inr (some cq4))], H)) (C := [¬ (8192 : Int32) = 0]) rfl (show ¬ (8192 : Int32) = 0 from (by decide)) ?_
  rw [(show ((nI st) - (nI st) / (8192 : Int32) * (8192 : Int32)) = (nI (st % 8192)) from (nI_mod (a := st) (b := 8192) (by omega) (by omega)))]
  refine mw_go mu_g235 (k := 2) (f1 := (45, [(4, .inl (nI (hln fc st))), (3, .inl (2 : Int32)), (0, .inr (.inr (some 113))), (1, .inl (nI id)), (2, .inr (.inr (some 146)))], [.inl ((nI (st % 8192)) + (1 : Int32)), .inr (.inr (some cq4))], H)) (C := []) rfl trivial ?_
  rw [(show ((nI (st % 8192)) + (1 : Int32)) = (nI ((st % 8192) + 1)) from (nI_add (st % 8192) 1))]
  refine mw_go mu_g235 (k := 4) (f1 := (49, [(4, .inl (nI (hln fc st))), (3, .inl (2 : Int32)), (0, .inr (.inr (some 113))), (1, .inl (nI id)), (2, .inr (.inr (some 146)))], [.inl (Int32.ofNat (mu_n H 146)), .inl (0 : Int32), .inr (.inr (some 146)), .inl (nI ((st % 8192) + 1)), .inr (.inr (some cq4))], H)) (C := [mu_isr H (some 146) (mu_k H 146), 100 ≤ mu_k H 146]) rfl (show (mu_isr H (some 146) (mu_k H 146)) ∧ (100 ≤ mu_k H 146) from ⟨(by have z := (h.1.1.a (p := 146) (x := (102, 256)) rfl).1; rw [show mu_k H 146 = 102 from z.2.2]; exact z.r), (by have z := (h.1.1.a (p := 146) (x := (102, 256)) rfl).1; rw [show mu_k H 146 = 102 from z.2.2]; decide)⟩) ?_
  rw [(show Int32.ofNat (mu_n H 146) = nI 256 from congrArg Int32.ofNat (show mu_n H 146 = 256 from (h.1.1.a (p := 146) (x := (102, 256)) rfl).2))]
  refine mw_go mu_g235 (k := 1) (f1 := (51, [(4, .inl (nI (hln fc st))), (3, .inl (2 : Int32)), (0, .inr (.inr (some 113))), (1, .inl (nI id)), (2, .inr (.inr (some 146)))], [.inl (nI (hln fc st)), .inl (nI 256), .inl (0 : Int32), .inr (.inr (some 146)), .inl (nI ((st % 8192) + 1)), .inr (.inr (some cq4))], H)) (C := []) rfl trivial ?_
  refine mw_cIe (fun _ => rfl) trivial (mu_min_ok (d := (d + 1)) (nI 256) (nI (hln fc st))) ?_
  rw [show (mu_min (nI 256) (nI (hln fc st))) = nI (min 256 (hln fc st)) from mu_min_n (a := 256) (b := hln fc st) (by omega) (by omega)]
  refine mw_copyL rfl (show mu_is H (some cq4) 102 from kb4) (show mu_is H (some 146) 102 from (h.1.1.a (p := 146) (x := (102, 256)) rfl).1) (nI_pos (by omega)) (by decide) (nI_pos (by omega)) (by rw [show mu_n H (mu_p (some cq4)) = 8192 from kc4, (show (nI ((st % 8192) + 1)).toNatClampNeg = (st % 8192) + 1 from nI_clamp (by omega)), (show (nI (min 256 (hln fc st))).toNatClampNeg = min 256 (hln fc st) from nI_clamp (by omega))]; omega) (by rw [show mu_n H (mu_p (some 146)) = 256 from (h.1.1.a (p := 146) (x := (102, 256)) rfl).2, (show (0 : Int32).toNatClampNeg = 0 from by decide), (show (nI (min 256 (hln fc st))).toNatClampNeg = min 256 (hln fc st) from nI_clamp (by omega))]; omega) (by decide) ?_
  rw [(show (nI ((st % 8192) + 1)).toNatClampNeg = (st % 8192) + 1 from nI_clamp (by omega)), (show (0 : Int32).toNatClampNeg = 0 from by decide), (show (nI (min 256 (hln fc st))).toNatClampNeg = min 256 (hln fc st) from nI_clamp (by omega))]
  show mu_W _ _ (57, [(4, .inl (nI (hln fc st))), (3, .inl (2 : Int32)), (0, .inr (.inr (some 113))), (1, .inl (nI id)), (2, .inr (.inr (some 146)))], [], (mu_cpl H cq4 ((st % 8192) + 1) 146 0 (min 256 (hln fc st)))) _
  obtain ⟨u6, r6, d6⟩ : um m (mu_cpl H cq4 ((st % 8192) + 1) 146 0 (min 256 (hln fc st))) ∧ ur m C H (mu_cpl H cq4 ((st % 8192) + 1) 146 0 (min 256 (hln fc st))) ∧ ud m (mu_cpl H cq4 ((st % 8192) + 1) 146 0 (min 256 (hln fc st))) = (upM U 146 0 (fun i => fc (((st % 8192) + 1) + i)) (min 256 (hln fc st))) := h.cPL (C := C) e rfl kd4
  generalize (mu_cpl H cq4 ((st % 8192) + 1) 146 0 (min 256 (hln fc st))) = Q6 at u6 r6 d6 ⊢
  have qf6 : uq F235_146 U (upM U 146 0 (fun i => fc (((st % 8192) + 1) + i)) (min 256 (hln fc st))) := (uq.refl F235_146 U).M rfl
  have ht6 : ur m C H Q6 := (ur.refl m C H).trans r6
  exact mw_of (fun _ => mu_ret rfl trivial ⟨Q6, rfl, u6, ht6, (by rw [d6]; exact qf6), (by rw [d6]; exact unp_2 hm3 hS (hc hf))⟩)
theorem st_unp_146 (h : um m H) (e : ud m H = U) (hs : sat U id st fc) (hz : stz fc st S) (hS : ∀ x, S x = true → x < 16384) (hc : hfm fc st = 2 → ∀ t, t / 64 < hln fc st → bts (U.2.2.2.2.1 146) t = false) : mu_TV (mu_D (d + 3)) 235 [.inr (.inr (some 113)), .inl (nI id), .inr (.inr (some 146))] H (fun H1 => um m H1 ∧ ur m C H H1 ∧ uq F235_146 U (ud m H1) ∧ ∀ t, bts ((ud m H1).2.2.2.2.1 146) t = true ↔ bts (U.2.2.2.2.1 146) t = true ∨ S t = true) := by
  have kf := hz.1
  by_cases f0 : hfm fc st = 0
  · exact st_unp0_146 h e hs hz hS hc f0
  · by_cases f1 : hfm fc st = 1
    · exact st_unp1_146 h e hs hz hS hc f1
    · exact st_unp2_146 h e hs hz hS hc (by omega)
end Unpack
