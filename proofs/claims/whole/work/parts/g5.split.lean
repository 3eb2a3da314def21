/-! RELATION: splitPieces -/
section SplitP
variable {H : mu_H} {U V : Ud} {m d P a n i k : Nat} {C : Nat → Nat} {Y : Ts} {f od : Nat → Nat} {es : Nat → Int32} {t : Tb}
theorem rl_fnextP (h : um m H) (e : ud m H = U) (hmo : U.2.2.2.1 99 0 = some m) (hj0 : U.1 0 = Y 0) (hC : Cc Y) (hb : a + n ≤ (Y 0).1) (hb2 : (Y 0).1 ≤ 67108864) : mu_TI (mu_D (d + 2)) 388 [.inr (.inr (some 129)), .inl (nI a), .inl (nI (a + n))] H (fun x H1 => ∃ fn, x = nI fn ∧ a ≤ fn ∧ fn ≤ a + n ∧ H1 = H) :=
  (rl_fnext h e hmo hj0 hC hb hb2).imp (fun x H1 q => by
    rcases q with ⟨q1, q2, -⟩ | ⟨q, q1, q2, q3, -⟩
    · exact ⟨a + n, q2, by omega, Nat.le_refl _, q1⟩
    · exact ⟨a + q, q2, by omega, by omega, q1⟩)
theorem PCT.pcr (h : PCT Y es t k) : PCR Y t 0 1 k (rwa t k) (rwn t k) (rwi t k) := by
  obtain ⟨⟨h0, h1, h2⟩, h3, h4, h5⟩ := h
  refine ⟨h0, h1, ?_⟩
  rcases h5 with y | y
  · exact ⟨[], by rw [y]; exact rgs_nil (by omega)⟩
  · exact ⟨_, rgs_of y.1⟩
def F290a : Uf := ⟨[23], [], [], [], [], false⟩
def F290b : Uf := ⟨[23], [], [], [], [], false⟩
/-- PathProver$Relation.splitPieces()V -/
abbrev mu_m290 : ev_M := (7, none, [], ev_b290)
theorem mu_g290 : mu_good mu_m290 := mu_goodk ev_k290
def F290 : Uf := ⟨[23], [], [], [], [], false⟩
theorem rl_split (h : um m H) (e : ud m H = U) (hK : RSK m U Y P f od es) (hPC : ∀ r, r < (U.1 23).1 → PCT Y es (U.1 23) r) (hsz : (U.1 23).1 ≤ 4001) (hC23 : 50000 ≤ C 23) (hC23b : C 23 ≤ 8388608) : mu_TV (mu_D (d + 6)) 290 [.inr (.inr (some 129))] H (fun H1 => um m H1 ∧ ur m C H H1 ∧ uq F290 U (ud m H1) ∧ ((ud m H1).1 23).1 ≤ max (U.1 23).1 2048 ∧ (∀ r, r < ((ud m H1).1 23).1 → PCT Y es ((ud m H1).1 23) r) ∧ ∀ s u, PND Y U f P od ((ud m H1).1 23) s u ↔ PND Y U f P od (U.1 23) s u) := by
  have hD : MDL Y es := hK.1.2.2.2.1
  have hCc : Cc Y := hD.1.2.2.2.2.2.1.2
  obtain ⟨hb13, hb0, hb15, hb16, hb17⟩ := hD.2.2.2.1
  have hY11 : (Y 11).1 ≤ 67108864 := hD.1.2.2.2.2.2.2 11 (by decide)
  have hmo : U.2.2.2.1 99 0 = some m := hK.1.1.2.2.2.2.2
  have hj0U : U.1 0 = Y 0 := hK.1.2.2.1.1 0 (by decide)
  have hj9U : U.1 9 = Y 9 := hK.1.2.2.1.1 9 (by decide)
  refine mu_meth (M := mu_m290) rfl rfl ?_
  refine mw_ht (mu_fn_of (show [0].Nodup by decide)) ?_
  refine mw_go mu_g290 (k := 2) (f1 := (4, [(0, .inr (.inr (some 129)))], [.inr (.inr (mu_r H 129 0))], H)) (C := [mu_is H (some 129) 9]) rfl (show mu_is H (some 129) 9 from (h.1.1.is rfl)) ?_
  rw [(h.1.1.r (p := 129) (j := 0) (q := 99) rfl)]
  refine mw_go mu_g290 (k := 1) (f1 := (7, [(0, .inr (.inr (some 129)))], [.inr (.inr (mu_r H 99 0))], H)) (C := [mu_is H (some 99) 13]) rfl (show mu_is H (some 99) 13 from (h.1.1.is rfl)) ?_
  rw [(show mu_r H 99 0 = (some m) from (ud_q (U := U) (m := m) (P := 99) (j := 0) e rfl).trans hmo)]
  refine mw_go mu_g290 (k := 3) (f1 := (10, [(2, .inl (0 : Int32)), (1, .inr (.inr (some m))), (0, .inr (.inr (some 129)))], [], H)) (C := []) rfl trivial ?_
  show mu_W _ _ (10, [(2, .inl (nI 0)), (1, .inr (.inr (some m))), (0, .inr (.inr (some 129)))], [], H) _
  refine mw_sub (L' := [(2, .inl (nI 0)), (0, .inr (.inr (some 129))), (1, .inr (.inr (some m)))]) (by simp) ?_
  refine mw_down (α := Nat × mu_H) (fun zs => (10, [(2, .inl (nI zs.1)), (0, .inr (.inr (some 129))), (1, .inr (.inr (some m)))], [], zs.2)) (fun zs => max (U.1 23).1 2048 - zs.1) (fun zs => um m zs.2 ∧ ur m C H zs.2 ∧ (uq F290a U (ud m zs.2)) ∧ (zs.1 ≤ ((ud m zs.2).1 23).1) ∧ (((ud m zs.2).1 23).1 ≤ max (U.1 23).1 2048) ∧ (∀ r, r < ((ud m zs.2).1 23).1 → PCT Y es ((ud m zs.2).1 23) r) ∧ (∀ s u, PND Y U f P od ((ud m zs.2).1 23) s u ↔ PND Y U f P od (U.1 23) s u)) (fun zs hza iha => ?_) (0, H) ⟨h, (ur.refl m C H), (show uq F290a U (ud m H) from by rw [e]; exact uq.refl _ _), (show 0 ≤ ((ud m H).1 23).1 from by rw [e]; exact (Nat.zero_le _)), (show ((ud m H).1 23).1 ≤ max (U.1 23).1 2048 from by rw [e]; exact (by omega)), (show ∀ r, r < ((ud m H).1 23).1 → PCT Y es ((ud m H).1 23) r from by rw [e]; exact hPC), (show ∀ s u, PND Y U f P od ((ud m H).1 23) s u ↔ PND Y U f P od (U.1 23) s u from by rw [e]; exact (fun s u => Iff.rfl))⟩
  obtain ⟨k, Hsa⟩ := zs
  obtain ⟨ua, hta, da, hk, hsza, hPCa, hPNa⟩ := hza
  have ua : um m Hsa := ua
  have hta : ur m C H Hsa := hta
  have zza : uq F290a U (ud m Hsa) := da
  have hk : k ≤ ((ud m Hsa).1 23).1 := hk
  have hsza : ((ud m Hsa).1 23).1 ≤ max (U.1 23).1 2048 := hsza
  have hPCa : ∀ r, r < ((ud m Hsa).1 23).1 → PCT Y es ((ud m Hsa).1 23) r := hPCa
  have hPNa : ∀ s u, PND Y U f P od ((ud m Hsa).1 23) s u ↔ PND Y U f P od (U.1 23) s u := hPNa
  obtain ⟨Va, da⟩ : ∃ V, ud m Hsa = V := ⟨_, rfl⟩
  rw [da] at zza hk hsza hPCa hPNa
  have qfa : uq F290 U Va := (uq.refl F290 U).tr zza rfl
  show mu_W _ _ (10, [(2, .inl (nI k)), (0, .inr (.inr (some 129))), (1, .inr (.inr (some m)))], [], Hsa) _
  refine mw_go mu_g290 (k := 3) (f1 := (15, [(2, .inl (nI k)), (0, .inr (.inr (some 129))), (1, .inr (.inr (some m)))], [.inr (.inr (mu_r Hsa 129 2)), .inl (nI k)], Hsa)) (C := [mu_is Hsa (some 129) 9]) rfl (show mu_is Hsa (some 129) 9 from (ua.1.1.is rfl)) ?_
  rw [(ua.1.1.r (p := 129) (j := 2) (q := 118) rfl)]
  refine mw_go mu_g290 (k := 1) (f1 := (18, [(2, .inl (nI k)), (0, .inr (.inr (some 129))), (1, .inr (.inr (some m)))], [.inl (mu_i Hsa 118 2), .inl (nI k)], Hsa)) (C := [mu_is Hsa (some 118) 10]) rfl (show mu_is Hsa (some 118) 10 from (ua.1.1.is rfl)) ?_
  rw [(show mu_i Hsa 118 2 = (nI (Va.1 23).1) from (ua.size da (j := 23) (by decide) rfl).trans (congrArg (fun z => nI z.1) (show Va.1 23 = (Va.1 23) from rfl)))]
  refine mw_if (P := (nI k) < (nI (Va.1 23).1)) (a := 21) (b := 184) (fun _ => rfl) trivial (fun h1 => ?_) (fun h1 => ?_)
  · -- 21: (nI k) < (nI (Va.1 23).1)
    have nh1 : k < ((Va.1 23).1) := (nI_ltI (by omega) (by omega)).mp (show nI k < nI ((Va.1 23).1) from h1)
    have hPk := hPCa k (by omega)
    have hPk3 := hPk.2.2.1
    refine mw_go mu_g290 (k := 3) (f1 := (26, [(2, .inl (nI k)), (0, .inr (.inr (some 129))), (1, .inr (.inr (some m)))], [.inr (.inr (mu_r Hsa 129 2)), .inr (.inr (some 129))], Hsa)) (C := [mu_is Hsa (some 129) 9]) rfl (show mu_is Hsa (some 129) 9 from (ua.1.1.is rfl)) ?_
    rw [(ua.1.1.r (p := 129) (j := 2) (q := 118) rfl)]
    refine mw_go mu_g290 (k := 2) (f1 := (28, [(2, .inl (nI k)), (0, .inr (.inr (some 129))), (1, .inr (.inr (some m)))], [.inl (0 : Int32), .inl (nI k), .inr (.inr (some 118)), .inr (.inr (some 129))], Hsa)) (C := []) rfl trivial ?_
    refine mw_cIe (fun _ => rfl) (show mu_is Hsa (some 118) 10 from (ua.1.1.is rfl)) (ua.getr (d := (d + 4)) da (j := 23) (by decide) rfl (nI k) (c := 0) (by decide)) ?_
    rw [show (tget (Va.1 23) (nI k) 0) = (nI (rwa (Va.1 23) k)) from ((congrArg (fun z => tget z (nI k) 0) (show Va.1 23 = (Va.1 23) from rfl)).trans (tget_nI (by first | omega | decide))).trans hPk.1.1]
    refine mw_go mu_g290 (k := 2) (f1 := (35, [(2, .inl (nI k)), (0, .inr (.inr (some 129))), (1, .inr (.inr (some m)))], [.inr (.inr (mu_r Hsa 129 2)), .inl (nI (rwa (Va.1 23) k)), .inr (.inr (some 129))], Hsa)) (C := [mu_is Hsa (some 129) 9]) rfl (show mu_is Hsa (some 129) 9 from (ua.1.1.is rfl)) ?_
    rw [(ua.1.1.r (p := 129) (j := 2) (q := 118) rfl)]
    refine mw_go mu_g290 (k := 2) (f1 := (37, [(2, .inl (nI k)), (0, .inr (.inr (some 129))), (1, .inr (.inr (some m)))], [.inl (1 : Int32), .inl (nI k), .inr (.inr (some 118)), .inl (nI (rwa (Va.1 23) k)), .inr (.inr (some 129))], Hsa)) (C := []) rfl trivial ?_
    refine mw_cIe (fun _ => rfl) (show mu_is Hsa (some 118) 10 from (ua.1.1.is rfl)) (ua.getr (d := (d + 4)) da (j := 23) (by decide) rfl (nI k) (c := 1) (by decide)) ?_
    rw [show (tget (Va.1 23) (nI k) 1) = (nI (rwa (Va.1 23) k + rwn (Va.1 23) k)) from ((congrArg (fun z => tget z (nI k) 1) (show Va.1 23 = (Va.1 23) from rfl)).trans (tget_nI (by first | omega | decide))).trans hPk.1.2.1]
    refine mw_cI (fun _ => rfl) (show mu_is Hsa (some 129) 9 from (ua.1.1.is rfl)) (rl_fnextP (d := (d + 3)) (Y := Y) (a := rwa (Va.1 23) k) (n := rwn (Va.1 23) k) ua da (show (Va.2.2.2.1 99 0) = some m from ((zza.r 99 0 rfl).trans hmo)) (show Va.1 0 = Y 0 from ((zza.t 0 rfl)).trans hj0U) hCc hPk.2.2.1 (by omega)) (fun x4 H4 q4 => ?_)
    obtain ⟨fn, rfl, hfn1, hfn2, hHe⟩ := q4
    rw [hHe]
    refine mw_go mu_g290 (k := 3) (f1 := (47, [(4, .inl (0 : Int32)), (3, .inl (nI fn)), (2, .inl (nI k)), (0, .inr (.inr (some 129))), (1, .inr (.inr (some m)))], [], Hsa)) (C := []) rfl trivial ?_
    show mu_W _ _ (47, [(4, .inl (nI 0)), (3, .inl (nI fn)), (2, .inl (nI k)), (0, .inr (.inr (some 129))), (1, .inr (.inr (some m)))], [], Hsa) _
    refine mw_sub (L' := [(4, .inl (nI 0)), (0, .inr (.inr (some 129))), (1, .inr (.inr (some m))), (2, .inl (nI k)), (3, .inl (nI fn))]) (by simp) ?_
    refine mw_down (α := Nat × mu_H) (fun zs => (47, [(4, .inl (nI zs.1)), (0, .inr (.inr (some 129))), (1, .inr (.inr (some m))), (2, .inl (nI k)), (3, .inl (nI fn))], [], zs.2)) (fun zs => 65536 - zs.1) (fun zs => um m zs.2 ∧ ur m C H zs.2 ∧ (uq F290b Va (ud m zs.2)) ∧ (zs.1 ≤ 65536) ∧ (k < ((ud m zs.2).1 23).1) ∧ (((ud m zs.2).1 23).1 ≤ max (U.1 23).1 2048) ∧ (∀ r, r < ((ud m zs.2).1 23).1 → PCT Y es ((ud m zs.2).1 23) r) ∧ (∀ s u, PND Y U f P od ((ud m zs.2).1 23) s u ↔ PND Y U f P od (U.1 23) s u) ∧ (rwa ((ud m zs.2).1 23) k ≤ fn)) (fun zs hzb ihb => ?_) (0, Hsa) ⟨ua, hta, (show uq F290b Va (ud m Hsa) from by rw [da]; exact uq.refl _ _), (show 0 ≤ 65536 from (by omega)), (show k < ((ud m Hsa).1 23).1 from by rw [da]; exact (by omega)), (show ((ud m Hsa).1 23).1 ≤ max (U.1 23).1 2048 from by rw [da]; exact hsza), (show ∀ r, r < ((ud m Hsa).1 23).1 → PCT Y es ((ud m Hsa).1 23) r from by rw [da]; exact hPCa), (show ∀ s u, PND Y U f P od ((ud m Hsa).1 23) s u ↔ PND Y U f P od (U.1 23) s u from by rw [da]; exact hPNa), (show rwa ((ud m Hsa).1 23) k ≤ fn from by rw [da]; exact hfn1)⟩
    obtain ⟨w, Hsb⟩ := zs
    obtain ⟨ub, htb, db, hw, hkb, hszb, hPCb, hPNb, hfb⟩ := hzb
    have ub : um m Hsb := ub
    have htb : ur m C H Hsb := htb
    have zzb : uq F290b Va (ud m Hsb) := db
    have hw : w ≤ 65536 := hw
    have hkb : k < ((ud m Hsb).1 23).1 := hkb
    have hszb : ((ud m Hsb).1 23).1 ≤ max (U.1 23).1 2048 := hszb
    have hPCb : ∀ r, r < ((ud m Hsb).1 23).1 → PCT Y es ((ud m Hsb).1 23) r := hPCb
    have hPNb : ∀ s u, PND Y U f P od ((ud m Hsb).1 23) s u ↔ PND Y U f P od (U.1 23) s u := hPNb
    have hfb : rwa ((ud m Hsb).1 23) k ≤ fn := hfb
    obtain ⟨Vb, db⟩ : ∃ V, ud m Hsb = V := ⟨_, rfl⟩
    rw [db] at zzb hkb hszb hPCb hPNb hfb
    have qfb : uq F290 U Vb := qfa.tr zzb rfl
    show mu_W _ _ (47, [(4, .inl (nI w)), (0, .inr (.inr (some 129))), (1, .inr (.inr (some m))), (2, .inl (nI k)), (3, .inl (nI fn))], [], Hsb) _
    have hPk := hPCb k hkb
    have hPk3 := hPk.2.2.1
    refine mw_go mu_g290 (k := 2) (f1 := (52, [(4, .inl (nI w)), (0, .inr (.inr (some 129))), (1, .inr (.inr (some m))), (2, .inl (nI k)), (3, .inl (nI fn))], [.inl (65536 : Int32), .inl (nI w)], Hsb)) (C := []) rfl trivial ?_
    refine mw_if (P := (nI w) < (65536 : Int32)) (a := 55) (b := 178) (fun _ => rfl) trivial (fun h5 => ?_) (fun h5 => ?_)
    · -- 55: (nI w) < (65536 : Int32)
      have nh5 : w < 65536 := (nI_ltI (by omega) (by omega)).mp (show nI w < nI 65536 from h5)
      refine mw_go mu_g290 (k := 2) (f1 := (59, [(4, .inl (nI w)), (0, .inr (.inr (some 129))), (1, .inr (.inr (some m))), (2, .inl (nI k)), (3, .inl (nI fn))], [.inr (.inr (mu_r Hsb 129 2))], Hsb)) (C := [mu_is Hsb (some 129) 9]) rfl (show mu_is Hsb (some 129) 9 from (ub.1.1.is rfl)) ?_
      rw [(ub.1.1.r (p := 129) (j := 2) (q := 118) rfl)]
      refine mw_go mu_g290 (k := 1) (f1 := (62, [(4, .inl (nI w)), (0, .inr (.inr (some 129))), (1, .inr (.inr (some m))), (2, .inl (nI k)), (3, .inl (nI fn))], [.inl (mu_i Hsb 118 2)], Hsb)) (C := [mu_is Hsb (some 118) 10]) rfl (show mu_is Hsb (some 118) 10 from (ub.1.1.is rfl)) ?_
      rw [(show mu_i Hsb 118 2 = (nI (Vb.1 23).1) from (ub.size db (j := 23) (by decide) rfl).trans (congrArg (fun z => nI z.1) (show Vb.1 23 = (Vb.1 23) from rfl)))]
      refine mw_go mu_g290 (k := 1) (f1 := (65, [(4, .inl (nI w)), (0, .inr (.inr (some 129))), (1, .inr (.inr (some m))), (2, .inl (nI k)), (3, .inl (nI fn))], [.inl (2048 : Int32), .inl (nI (Vb.1 23).1)], Hsb)) (C := []) rfl trivial ?_
      refine mw_if (P := (nI (Vb.1 23).1) < (2048 : Int32)) (a := 68) (b := 178) (fun _ => rfl) trivial (fun h6 => ?_) (fun h6 => ?_)
      · -- 68: (nI (Vb.1 23).1) < (2048 : Int32)
        have nh6 : ((Vb.1 23).1) < 2048 := (nI_ltI (by omega) (by omega)).mp (show nI ((Vb.1 23).1) < nI 2048 from h6)
        refine mw_go mu_g290 (k := 2) (f1 := (72, [(4, .inl (nI w)), (0, .inr (.inr (some 129))), (1, .inr (.inr (some m))), (2, .inl (nI k)), (3, .inl (nI fn))], [.inr (.inr (mu_r Hsb 129 2))], Hsb)) (C := [mu_is Hsb (some 129) 9]) rfl (show mu_is Hsb (some 129) 9 from (ub.1.1.is rfl)) ?_
        rw [(ub.1.1.r (p := 129) (j := 2) (q := 118) rfl)]
        refine mw_go mu_g290 (k := 2) (f1 := (74, [(4, .inl (nI w)), (0, .inr (.inr (some 129))), (1, .inr (.inr (some m))), (2, .inl (nI k)), (3, .inl (nI fn))], [.inl (1 : Int32), .inl (nI k), .inr (.inr (some 118))], Hsb)) (C := []) rfl trivial ?_
        refine mw_cIe (fun _ => rfl) (show mu_is Hsb (some 118) 10 from (ub.1.1.is rfl)) (ub.getr (d := (d + 4)) db (j := 23) (by decide) rfl (nI k) (c := 1) (by decide)) ?_
        rw [show (tget (Vb.1 23) (nI k) 1) = (nI (rwa (Vb.1 23) k + rwn (Vb.1 23) k)) from ((congrArg (fun z => tget z (nI k) 1) (show Vb.1 23 = (Vb.1 23) from rfl)).trans (tget_nI (by first | omega | decide))).trans hPk.1.2.1]
        refine mw_go mu_g290 (k := 3) (f1 := (82, [(5, .inl (nI (rwa (Vb.1 23) k + rwn (Vb.1 23) k))), (4, .inl (nI w)), (0, .inr (.inr (some 129))), (1, .inr (.inr (some m))), (2, .inl (nI k)), (3, .inl (nI fn))], [.inl (nI fn), .inl (nI (rwa (Vb.1 23) k + rwn (Vb.1 23) k))], Hsb)) (C := []) rfl trivial ?_
        refine mw_if (P := (nI fn) < (nI (rwa (Vb.1 23) k + rwn (Vb.1 23) k))) (a := 85) (b := 178) (fun _ => rfl) trivial (fun h8 => ?_) (fun h8 => ?_)
        · -- 85: (nI fn) < (nI (rwa (Vb.1 23) k + rwn (Vb.1 23) k))
          have nh8 : fn < (rwa (Vb.1 23) k + rwn (Vb.1 23) k) := (nI_ltI (by omega) (by omega)).mp (show nI fn < nI (rwa (Vb.1 23) k + rwn (Vb.1 23) k) from h8)
          obtain ⟨nn, hnn⟩ : ∃ nn, rwn (Vb.1 23) k = nn + 1 := ⟨rwn (Vb.1 23) k - 1, by omega⟩
          have hwk : WTC Y es (rwa (Vb.1 23) k) (nn + 1) (rwi (Vb.1 23) k) := by
            rcases hPk.2.2.2 with y | y
            · omega
            · rw [hnn] at y; exact y
          have hop : (U.1 0).2 (rwa (Vb.1 23) k + rwn (Vb.1 23) k - 1) 0 = nI (oc Y (rwa (Vb.1 23) k + nn)) := by
            rw [hj0U, show rwa (Vb.1 23) k + rwn (Vb.1 23) k - 1 = rwa (Vb.1 23) k + nn by omega]
            exact oc_w hD.1 (by omega)
          have hoc34 : oc Y (rwa (Vb.1 23) k + nn) ≤ 34 := by
            obtain ⟨q, q1, q2, -⟩ := hCc (rwa (Vb.1 23) k + nn) (by omega)
            unfold oc; rw [q2, nI_clamp (by omega)]; exact q1
          refine mw_go mu_g290 (k := 2) (f1 := (89, [(5, .inl (nI (rwa (Vb.1 23) k + rwn (Vb.1 23) k))), (4, .inl (nI w)), (0, .inr (.inr (some 129))), (1, .inr (.inr (some m))), (2, .inl (nI k)), (3, .inl (nI fn))], [.inr (.inr (mu_r Hsb m 0))], Hsb)) (C := [mu_is Hsb (some m) 6]) rfl (show mu_is Hsb (some m) 6 from (show mu_is Hsb (some m) 6 from gi_im ub.1.1 ub.2)) ?_
          rw [(show mu_r Hsb m 0 = some (m + 1) from (gi_mr ub.1.1 ub.2 (j := 0) (by decide)).trans (congrArg some (by omega)))]
          refine mw_go mu_g290 (k := 3) (f1 := (93, [(5, .inl (nI (rwa (Vb.1 23) k + rwn (Vb.1 23) k))), (4, .inl (nI w)), (0, .inr (.inr (some 129))), (1, .inr (.inr (some m))), (2, .inl (nI k)), (3, .inl (nI fn))], [.inl ((nI (rwa (Vb.1 23) k + rwn (Vb.1 23) k)) - (1 : Int32)), .inr (.inr (some (m + 1)))], Hsb)) (C := []) rfl trivial ?_
          rw [(show ((nI (rwa (Vb.1 23) k + rwn (Vb.1 23) k)) - (1 : Int32)) = (nI ((rwa (Vb.1 23) k + rwn (Vb.1 23) k) - 1)) from (nI_sub (a := rwa (Vb.1 23) k + rwn (Vb.1 23) k) (b := 1) (by omega)))]
          refine mw_go mu_g290 (k := 1) (f1 := (94, [(5, .inl (nI (rwa (Vb.1 23) k + rwn (Vb.1 23) k))), (4, .inl (nI w)), (0, .inr (.inr (some 129))), (1, .inr (.inr (some m))), (2, .inl (nI k)), (3, .inl (nI fn))], [.inl (0 : Int32), .inl (nI ((rwa (Vb.1 23) k + rwn (Vb.1 23) k) - 1)), .inr (.inr (some (m + 1)))], Hsb)) (C := []) rfl trivial ?_
          refine mw_cIe (fun _ => rfl) (show mu_is Hsb (some (m + 1)) 10 from ((ub.1.1.w (md_w0 ub.2)).1)) (ub.getr (d := (d + 4)) db (j := 0) (by decide) rfl (nI ((rwa (Vb.1 23) k + rwn (Vb.1 23) k) - 1)) (c := 0) (by decide)) ?_
          rw [show (tget (Vb.1 0) (nI ((rwa (Vb.1 23) k + rwn (Vb.1 23) k) - 1)) 0) = (nI (oc Y (rwa (Vb.1 23) k + nn))) from ((congrArg (fun z => tget z (nI ((rwa (Vb.1 23) k + rwn (Vb.1 23) k) - 1)) 0) (show Vb.1 0 = (U.1 0) from ((zzb.t 0 rfl).trans (zza.t 0 rfl)))).trans (tget_nI (by first | omega | decide))).trans hop]
          refine mw_go mu_g290 (k := 1) (f1 := (99, [(5, .inl (nI (rwa (Vb.1 23) k + rwn (Vb.1 23) k))), (4, .inl (nI w)), (0, .inr (.inr (some 129))), (1, .inr (.inr (some m))), (2, .inl (nI k)), (3, .inl (nI fn))], [.inl (8 : Int32), .inl (nI (oc Y (rwa (Vb.1 23) k + nn)))], Hsb)) (C := []) rfl trivial ?_
          refine mw_if (P := (nI (oc Y (rwa (Vb.1 23) k + nn))) = (8 : Int32)) (a := 105) (b := 102) (fun _ => rfl) trivial (fun h10 => ?_) (fun h10 => ?_)
          · -- 105: (nI (oc Y (rwa (Vb.1 23) k + nn))) = (8 : Int32)
            have nh10 : (oc Y (rwa (Vb.1 23) k + nn)) = 8 := (nI_eq (by omega) (by omega)).mp (show nI (oc Y (rwa (Vb.1 23) k + nn)) = nI 8 from h10)
            obtain ⟨j, hj1, hj2, hj3, hj4, hj5, hwa1, hwa2, hxx⟩ := and_split2 (U := U) (f := f) (P := P) (od := od) (a := rwa (Vb.1 23) k) (n := nn) (i := rwi (Vb.1 23) k) hK.1 hPk.2.1 hwk (by omega)
            refine mw_go mu_g290 (k := 4) (f1 := (110, [(5, .inl (nI (rwa (Vb.1 23) k + rwn (Vb.1 23) k))), (4, .inl (nI w)), (0, .inr (.inr (some 129))), (1, .inr (.inr (some m))), (2, .inl (nI k)), (3, .inl (nI fn))], [.inl ((nI (rwa (Vb.1 23) k + rwn (Vb.1 23) k)) - (2 : Int32)), .inr (.inr (some m))], Hsb)) (C := []) rfl trivial ?_
            rw [(show ((nI (rwa (Vb.1 23) k + rwn (Vb.1 23) k)) - (2 : Int32)) = (nI ((rwa (Vb.1 23) k + rwn (Vb.1 23) k) - 2)) from (nI_sub (a := rwa (Vb.1 23) k + rwn (Vb.1 23) k) (b := 2) (by omega)))]
            refine mw_cIe (fun _ => rfl) (show mu_is Hsb (some m) 6 from (show mu_is Hsb (some m) 6 from gi_im ub.1.1 ub.2)) (by have y := um_start (d := (d + 3)) (a := rwa (Vb.1 23) k) (n := nn) (j := j) ub db (show Vb.1 0 = Y 0 from (((zzb.t 0 rfl).trans (zza.t 0 rfl))).trans hj0U) hCc (fun q hq => rg_pl hwk.1 q (by omega)) (by omega) (by omega) (by omega) hj2 hj4 hj5; rw [show rwa (Vb.1 23) k + nn - 1 = rwa (Vb.1 23) k + rwn (Vb.1 23) k - 2 by omega] at y; exact y) ?_
            refine mw_go mu_g290 (k := 6) (f1 := (122, [(6, .inl (nI (rwa (Vb.1 23) k + j))), (5, .inl (nI (rwa (Vb.1 23) k + rwn (Vb.1 23) k))), (4, .inl (nI w)), (0, .inr (.inr (some 129))), (1, .inr (.inr (some m))), (2, .inl (nI k)), (3, .inl (nI fn))], [.inl ((nI (rwa (Vb.1 23) k + rwn (Vb.1 23) k)) - (1 : Int32)), .inl (nI (rwa (Vb.1 23) k + j)), .inr (.inr (some 129))], Hsb)) (C := []) rfl trivial ?_
            rw [(show ((nI (rwa (Vb.1 23) k + rwn (Vb.1 23) k)) - (1 : Int32)) = (nI ((rwa (Vb.1 23) k + rwn (Vb.1 23) k) - 1)) from (nI_sub (a := rwa (Vb.1 23) k + rwn (Vb.1 23) k) (b := 1) (by omega)))]
            refine mw_go mu_g290 (k := 2) (f1 := (126, [(6, .inl (nI (rwa (Vb.1 23) k + j))), (5, .inl (nI (rwa (Vb.1 23) k + rwn (Vb.1 23) k))), (4, .inl (nI w)), (0, .inr (.inr (some 129))), (1, .inr (.inr (some m))), (2, .inl (nI k)), (3, .inl (nI fn))], [.inr (.inr (mu_r Hsb 129 2)), .inl (nI ((rwa (Vb.1 23) k + rwn (Vb.1 23) k) - 1)), .inl (nI (rwa (Vb.1 23) k + j)), .inr (.inr (some 129))], Hsb)) (C := [mu_is Hsb (some 129) 9]) rfl (show mu_is Hsb (some 129) 9 from (ub.1.1.is rfl)) ?_
            rw [(ub.1.1.r (p := 129) (j := 2) (q := 118) rfl)]
            refine mw_go mu_g290 (k := 2) (f1 := (128, [(6, .inl (nI (rwa (Vb.1 23) k + j))), (5, .inl (nI (rwa (Vb.1 23) k + rwn (Vb.1 23) k))), (4, .inl (nI w)), (0, .inr (.inr (some 129))), (1, .inr (.inr (some m))), (2, .inl (nI k)), (3, .inl (nI fn))], [.inl (2 : Int32), .inl (nI k), .inr (.inr (some 118)), .inl (nI ((rwa (Vb.1 23) k + rwn (Vb.1 23) k) - 1)), .inl (nI (rwa (Vb.1 23) k + j)), .inr (.inr (some 129))], Hsb)) (C := []) rfl trivial ?_
            refine mw_cIe (fun _ => rfl) (show mu_is Hsb (some 118) 10 from (ub.1.1.is rfl)) (ub.getr (d := (d + 4)) db (j := 23) (by decide) rfl (nI k) (c := 2) (by decide)) ?_
            rw [show (tget (Vb.1 23) (nI k) 2) = (nI (rwi (Vb.1 23) k)) from ((congrArg (fun z => tget z (nI k) 2) (show Vb.1 23 = (Vb.1 23) from rfl)).trans (tget_nI (by first | omega | decide))).trans hPk.1.2.2]
            have hspb : sp Y (im Y (rwi (Vb.1 23) k) + 1) 6 ≤ 67108864 := by
              obtain ⟨-, -, -, hkM, -⟩ := hD.1.inst hPk.2.1
              obtain ⟨lr1, lr2, lr3⟩ := hD.1.le hkM (c := 6) (j := 9) (by decide) (by decide) rfl
              omega
            refine mw_cI (fun _ => rfl) (show mu_is Hsb (some 129) 9 from (ub.1.1.is rfl)) (by have y := rl_there (d := (d + 1)) (Y := Y) (a := rwa (Vb.1 23) k + j) (n := nn - j) (i := rwi (Vb.1 23) k) (np := (Vb.1 23).1) (pa := fun r => rwa (Vb.1 23) r) (pn := fun r => rwn (Vb.1 23) r) (pi := fun r => rwi (Vb.1 23) r) ub db (show (Vb.2.2.2.1 99 0) = some m from ((zzb.r 99 0 rfl).trans ((zza.r 99 0 rfl).trans hmo))) (hK.q (show uq F290 U Vb from (((uq.refl F290 U).tr zza rfl).tr zzb rfl)) rfl rfl).1.2.2.1 (show Vb.1 0 = Y 0 from (((zzb.t 0 rfl).trans (zza.t 0 rfl))).trans hj0U) (show Vb.1 9 = Y 9 from (((zzb.t 9 rfl).trans (zza.t 9 rfl))).trans hj9U) hD.1 hCc hPk.2.1 (by omega) (rgs_of hwa2.1) (by omega) hspb (fun r hr => (hPCb r hr).pcr) (fun r hr => ⟨(hPCb r hr).1.2.2, by have y := (hPCb r hr).2.1; omega⟩) rfl (by omega); rw [show rwa (Vb.1 23) k + j + (nn - j) = rwa (Vb.1 23) k + rwn (Vb.1 23) k - 1 by omega] at y; exact y) (fun x13 H13 q13 => ?_)
            rcases q13 with ⟨⟨rfl, hal⟩ | rfl, hHe⟩
            · -- (1 : Int32)
              rw [hHe]
              refine mw_if (P := (1 : Int32) = 0) (a := 137) (b := 161) (fun _ => rfl) trivial (fun h14 => absurd h14 (by decide)) (fun h14 => ?_)
              refine mw_go mu_g290 (k := 2) (f1 := (165, [(6, .inl (nI (rwa (Vb.1 23) k + j))), (5, .inl (nI (rwa (Vb.1 23) k + rwn (Vb.1 23) k))), (4, .inl (nI w)), (0, .inr (.inr (some 129))), (1, .inr (.inr (some m))), (2, .inl (nI k)), (3, .inl (nI fn))], [.inr (.inr (mu_r Hsb 129 2))], Hsb)) (C := [mu_is Hsb (some 129) 9]) rfl (show mu_is Hsb (some 129) 9 from (ub.1.1.is rfl)) ?_
              rw [(ub.1.1.r (p := 129) (j := 2) (q := 118) rfl)]
              refine mw_go mu_g290 (k := 3) (f1 := (169, [(6, .inl (nI (rwa (Vb.1 23) k + j))), (5, .inl (nI (rwa (Vb.1 23) k + rwn (Vb.1 23) k))), (4, .inl (nI w)), (0, .inr (.inr (some 129))), (1, .inr (.inr (some m))), (2, .inl (nI k)), (3, .inl (nI fn))], [.inl (nI (rwa (Vb.1 23) k + j)), .inl (1 : Int32), .inl (nI k), .inr (.inr (some 118))], Hsb)) (C := []) rfl trivial ?_
              refine mw_cV (fun _ => rfl) (show mu_is Hsb (some 118) 10 from (ub.1.1.is rfl)) (ub.setr (C := C) (d := (d + 4)) db (j := 23) (Or.inr ⟨by decide, by decide⟩) rfl (nI k) (nI (rwa (Vb.1 23) k + j)) (c := 1) (by decide)) (fun Q15 q15 => ?_)
              obtain ⟨u15, r15, d15⟩ := q15
              have ht15 : ur m C H Q15 := htb.trans r15
              have qf15 : uq F290 U (upT Vb (ax 23 Vb.1 (nI k) 1 (nI (rwa (Vb.1 23) k + j)))) := qfb.ax rfl
              obtain ⟨hP1, hP2, hP3, hP4⟩ := pnd_set (U := U) (f := f) (P := P) (od := od) (t := Vb.1 23) (k := k) (n := nn) (j := j) hPCb hkb (by omega) (by omega) hY11 hnn hj2 hwa1 hxx hal
              have hT1 : (upT Vb (ax 23 Vb.1 (nI k) 1 (nI (rwa (Vb.1 23) k + j)))).1 23 = tset 5 (Vb.1 23) (nI k) 1 (nI (rwa (Vb.1 23) k + j)) := rfl
              refine mw_go mu_g290 (k := 1) (f1 := (175, [(4, .inl ((nI w) + 1)), (6, .inl (nI (rwa (Vb.1 23) k + j))), (5, .inl (nI (rwa (Vb.1 23) k + rwn (Vb.1 23) k))), (0, .inr (.inr (some 129))), (1, .inr (.inr (some m))), (2, .inl (nI k)), (3, .inl (nI fn))], [], Q15)) (C := []) rfl trivial ?_
              rw [(show ((nI w) + 1) = (nI (w + 1)) from (nI_add w 1))]
              refine mw_go mu_g290 (k := 1) (f1 := (47, [(4, .inl (nI (w + 1))), (6, .inl (nI (rwa (Vb.1 23) k + j))), (5, .inl (nI (rwa (Vb.1 23) k + rwn (Vb.1 23) k))), (0, .inr (.inr (some 129))), (1, .inr (.inr (some m))), (2, .inl (nI k)), (3, .inl (nI fn))], [], Q15)) (C := []) rfl trivial ?_
              exact mw_sub (by simp) (ihb (w + 1, Q15) ⟨u15, ht15, (show uq F290b Va (ud m Q15) from by rw [d15]; exact (zzb.T (fun q hq => by first | exact ax_ne (in1_ne rfl hq) | exact ap_ne (in1_ne rfl hq) | exact fu_ne _ _ (in1_ne rfl hq)))), (show (w + 1) ≤ 65536 from (by omega)), (show k < ((ud m Q15).1 23).1 from by rw [d15]; exact (by rw [hT1, hP2]; omega)), (show ((ud m Q15).1 23).1 ≤ max (U.1 23).1 2048 from by rw [d15]; exact (by rw [hT1, hP2]; omega)), (show ∀ r, r < ((ud m Q15).1 23).1 → PCT Y es ((ud m Q15).1 23) r from by rw [d15]; exact (by rw [hT1]; exact hP1)), (show ∀ s u, PND Y U f P od ((ud m Q15).1 23) s u ↔ PND Y U f P od (U.1 23) s u from by rw [d15]; exact (by rw [hT1]; exact fun s u => (hP4 s u).trans (hPNb s u))), (show rwa ((ud m Q15).1 23) k ≤ fn from by rw [d15]; exact (by rw [hT1, hP3]; exact hfb))⟩ (by show 65536 - (w + 1) < 65536 - w; omega))
            · -- (0 : Int32)
              rw [hHe]
              refine mw_if (P := (0 : Int32) = 0) (a := 137) (b := 161) (fun _ => rfl) trivial (fun h16 => ?_) (fun h16 => absurd (by decide) h16)
              refine mw_go mu_g290 (k := 2) (f1 := (141, [(6, .inl (nI (rwa (Vb.1 23) k + j))), (5, .inl (nI (rwa (Vb.1 23) k + rwn (Vb.1 23) k))), (4, .inl (nI w)), (0, .inr (.inr (some 129))), (1, .inr (.inr (some m))), (2, .inl (nI k)), (3, .inl (nI fn))], [.inr (.inr (mu_r Hsb 129 2))], Hsb)) (C := [mu_is Hsb (some 129) 9]) rfl (show mu_is Hsb (some 129) 9 from (ub.1.1.is rfl)) ?_
              rw [(ub.1.1.r (p := 129) (j := 2) (q := 118) rfl)]
              refine mw_go mu_g290 (k := 4) (f1 := (147, [(6, .inl (nI (rwa (Vb.1 23) k + j))), (5, .inl (nI (rwa (Vb.1 23) k + rwn (Vb.1 23) k))), (4, .inl (nI w)), (0, .inr (.inr (some 129))), (1, .inr (.inr (some m))), (2, .inl (nI k)), (3, .inl (nI fn))], [.inl ((nI (rwa (Vb.1 23) k + rwn (Vb.1 23) k)) - (1 : Int32)), .inl (nI (rwa (Vb.1 23) k + j)), .inr (.inr (some 118))], Hsb)) (C := []) rfl trivial ?_
              rw [(show ((nI (rwa (Vb.1 23) k + rwn (Vb.1 23) k)) - (1 : Int32)) = (nI ((rwa (Vb.1 23) k + rwn (Vb.1 23) k) - 1)) from (nI_sub (a := rwa (Vb.1 23) k + rwn (Vb.1 23) k) (b := 1) (by omega)))]
              refine mw_go mu_g290 (k := 2) (f1 := (151, [(6, .inl (nI (rwa (Vb.1 23) k + j))), (5, .inl (nI (rwa (Vb.1 23) k + rwn (Vb.1 23) k))), (4, .inl (nI w)), (0, .inr (.inr (some 129))), (1, .inr (.inr (some m))), (2, .inl (nI k)), (3, .inl (nI fn))], [.inr (.inr (mu_r Hsb 129 2)), .inl (nI ((rwa (Vb.1 23) k + rwn (Vb.1 23) k) - 1)), .inl (nI (rwa (Vb.1 23) k + j)), .inr (.inr (some 118))], Hsb)) (C := [mu_is Hsb (some 129) 9]) rfl (show mu_is Hsb (some 129) 9 from (ub.1.1.is rfl)) ?_
              rw [(ub.1.1.r (p := 129) (j := 2) (q := 118) rfl)]
              refine mw_go mu_g290 (k := 2) (f1 := (153, [(6, .inl (nI (rwa (Vb.1 23) k + j))), (5, .inl (nI (rwa (Vb.1 23) k + rwn (Vb.1 23) k))), (4, .inl (nI w)), (0, .inr (.inr (some 129))), (1, .inr (.inr (some m))), (2, .inl (nI k)), (3, .inl (nI fn))], [.inl (2 : Int32), .inl (nI k), .inr (.inr (some 118)), .inl (nI ((rwa (Vb.1 23) k + rwn (Vb.1 23) k) - 1)), .inl (nI (rwa (Vb.1 23) k + j)), .inr (.inr (some 118))], Hsb)) (C := []) rfl trivial ?_
              refine mw_cIe (fun _ => rfl) (show mu_is Hsb (some 118) 10 from (ub.1.1.is rfl)) (ub.getr (d := (d + 4)) db (j := 23) (by decide) rfl (nI k) (c := 2) (by decide)) ?_
              rw [show (tget (Vb.1 23) (nI k) 2) = (nI (rwi (Vb.1 23) k)) from ((congrArg (fun z => tget z (nI k) 2) (show Vb.1 23 = (Vb.1 23) from rfl)).trans (tget_nI (by first | omega | decide))).trans hPk.1.2.2]
              refine mw_go mu_g290 (k := 1) (f1 := (157, [(6, .inl (nI (rwa (Vb.1 23) k + j))), (5, .inl (nI (rwa (Vb.1 23) k + rwn (Vb.1 23) k))), (4, .inl (nI w)), (0, .inr (.inr (some 129))), (1, .inr (.inr (some m))), (2, .inl (nI k)), (3, .inl (nI fn))], [.inl (-1 : Int32), .inl (nI (rwi (Vb.1 23) k)), .inl (nI ((rwa (Vb.1 23) k + rwn (Vb.1 23) k) - 1)), .inl (nI (rwa (Vb.1 23) k + j)), .inr (.inr (some 118))], Hsb)) (C := []) rfl trivial ?_
              refine mw_cI (fun _ => rfl) (show mu_is Hsb (some 118) 10 from (ub.1.1.is rfl)) (ub.putr (C := C) (d := (d + 2)) db (j := 23) (Or.inr ⟨by decide, by decide⟩) rfl (nI (rwa (Vb.1 23) k + j)) (nI ((rwa (Vb.1 23) k + rwn (Vb.1 23) k) - 1)) (nI (rwi (Vb.1 23) k)) (-1 : Int32) (by show 2 * (((Vb.1 23).1 + 1) * 5) + 5 ≤ C 23; omega) (by omega)) (fun x18 Q18 q18 => ?_)
              obtain ⟨rfl, u18, r18, d18⟩ := q18
              have ht18 : ur m C H Q18 := htb.trans r18
              have qf18 : uq F290 U (upT Vb (ap 23 Vb.1 (nI (rwa (Vb.1 23) k + j)) (nI ((rwa (Vb.1 23) k + rwn (Vb.1 23) k) - 1)) (nI (rwi (Vb.1 23) k)) (-1 : Int32))) := qfb.ap rfl
              refine mw_go mu_g290 (k := 3) (f1 := (165, [(6, .inl (nI (rwa (Vb.1 23) k + j))), (5, .inl (nI (rwa (Vb.1 23) k + rwn (Vb.1 23) k))), (4, .inl (nI w)), (0, .inr (.inr (some 129))), (1, .inr (.inr (some m))), (2, .inl (nI k)), (3, .inl (nI fn))], [.inr (.inr (mu_r Q18 129 2))], Q18)) (C := [mu_is Q18 (some 129) 9]) rfl (show mu_is Q18 (some 129) 9 from (u18.1.1.is rfl)) ?_
              rw [(u18.1.1.r (p := 129) (j := 2) (q := 118) rfl)]
              refine mw_go mu_g290 (k := 3) (f1 := (169, [(6, .inl (nI (rwa (Vb.1 23) k + j))), (5, .inl (nI (rwa (Vb.1 23) k + rwn (Vb.1 23) k))), (4, .inl (nI w)), (0, .inr (.inr (some 129))), (1, .inr (.inr (some m))), (2, .inl (nI k)), (3, .inl (nI fn))], [.inl (nI (rwa (Vb.1 23) k + j)), .inl (1 : Int32), .inl (nI k), .inr (.inr (some 118))], Q18)) (C := []) rfl trivial ?_
              refine mw_cV (fun _ => rfl) (show mu_is Q18 (some 118) 10 from (u18.1.1.is rfl)) (u18.setr (C := C) (d := (d + 4)) d18 (j := 23) (Or.inr ⟨by decide, by decide⟩) rfl (nI k) (nI (rwa (Vb.1 23) k + j)) (c := 1) (by decide)) (fun Q19 q19 => ?_)
              obtain ⟨u19, r19, d19⟩ := q19
              have ht19 : ur m C H Q19 := ht18.trans r19
              have qf19 : uq F290 U (upT (upT Vb (ap 23 Vb.1 (nI (rwa (Vb.1 23) k + j)) (nI ((rwa (Vb.1 23) k + rwn (Vb.1 23) k) - 1)) (nI (rwi (Vb.1 23) k)) (-1 : Int32))) (ax 23 (upT Vb (ap 23 Vb.1 (nI (rwa (Vb.1 23) k + j)) (nI ((rwa (Vb.1 23) k + rwn (Vb.1 23) k) - 1)) (nI (rwi (Vb.1 23) k)) (-1 : Int32))).1 (nI k) 1 (nI (rwa (Vb.1 23) k + j)))) := qf18.ax rfl
              obtain ⟨hP1, hP2, hP3, hP4⟩ := pnd_put (U := U) (f := f) (P := P) (od := od) (t := Vb.1 23) (k := k) (n := nn) (j := j) hPCb hkb (by omega) (by omega) hY11 hnn hj2 hwa1 hwa2 hxx rfl
              have hT1 : (upT (upT Vb (ap 23 Vb.1 (nI (rwa (Vb.1 23) k + j)) (nI ((rwa (Vb.1 23) k + rwn (Vb.1 23) k) - 1)) (nI (rwi (Vb.1 23) k)) (-1 : Int32))) (ax 23 (upT Vb (ap 23 Vb.1 (nI (rwa (Vb.1 23) k + j)) (nI ((rwa (Vb.1 23) k + rwn (Vb.1 23) k) - 1)) (nI (rwi (Vb.1 23) k)) (-1 : Int32))).1 (nI k) 1 (nI (rwa (Vb.1 23) k + j)))).1 23 = tset 5 (tput 5 (Vb.1 23) (nI (rwa (Vb.1 23) k + j)) (nI (rwa (Vb.1 23) k + nn)) (nI (rwi (Vb.1 23) k)) (-1)) (nI k) 1 (nI (rwa (Vb.1 23) k + j)) := by rw [show rwa (Vb.1 23) k + nn = rwa (Vb.1 23) k + rwn (Vb.1 23) k - 1 by omega]; rfl
              refine mw_go mu_g290 (k := 1) (f1 := (175, [(4, .inl ((nI w) + 1)), (6, .inl (nI (rwa (Vb.1 23) k + j))), (5, .inl (nI (rwa (Vb.1 23) k + rwn (Vb.1 23) k))), (0, .inr (.inr (some 129))), (1, .inr (.inr (some m))), (2, .inl (nI k)), (3, .inl (nI fn))], [], Q19)) (C := []) rfl trivial ?_
              rw [(show ((nI w) + 1) = (nI (w + 1)) from (nI_add w 1))]
              refine mw_go mu_g290 (k := 1) (f1 := (47, [(4, .inl (nI (w + 1))), (6, .inl (nI (rwa (Vb.1 23) k + j))), (5, .inl (nI (rwa (Vb.1 23) k + rwn (Vb.1 23) k))), (0, .inr (.inr (some 129))), (1, .inr (.inr (some m))), (2, .inl (nI k)), (3, .inl (nI fn))], [], Q19)) (C := []) rfl trivial ?_
              exact mw_sub (by simp) (ihb (w + 1, Q19) ⟨u19, ht19, (show uq F290b Va (ud m Q19) from by rw [d19]; exact ((zzb.T (fun q hq => by first | exact ax_ne (in1_ne rfl hq) | exact ap_ne (in1_ne rfl hq) | exact fu_ne _ _ (in1_ne rfl hq))).T (fun q hq => by first | exact ax_ne (in1_ne rfl hq) | exact ap_ne (in1_ne rfl hq) | exact fu_ne _ _ (in1_ne rfl hq)))), (show (w + 1) ≤ 65536 from (by omega)), (show k < ((ud m Q19).1 23).1 from by rw [d19]; exact (by rw [hT1, hP2]; omega)), (show ((ud m Q19).1 23).1 ≤ max (U.1 23).1 2048 from by rw [d19]; exact (by rw [hT1, hP2]; omega)), (show ∀ r, r < ((ud m Q19).1 23).1 → PCT Y es ((ud m Q19).1 23) r from by rw [d19]; exact (by rw [hT1]; exact hP1)), (show ∀ s u, PND Y U f P od ((ud m Q19).1 23) s u ↔ PND Y U f P od (U.1 23) s u from by rw [d19]; exact (by rw [hT1]; exact fun s u => (hP4 s u).trans (hPNb s u))), (show rwa ((ud m Q19).1 23) k ≤ fn from by rw [d19]; exact (by rw [hT1, hP3]; exact hfb))⟩ (by show 65536 - (w + 1) < 65536 - w; omega))
          · -- 102: not (nI (oc Y (rwa (Vb.1 23) k + nn))) = (8 : Int32)
            have nh10 : ¬ (oc Y (rwa (Vb.1 23) k + nn)) = 8 := fun z => h10 (show nI (oc Y (rwa (Vb.1 23) k + nn)) = nI 8 from (nI_eq (by omega) (by omega)).mpr z)
            refine mw_go mu_g290 (k := 2) (f1 := (181, [(2, .inl ((nI k) + 1)), (5, .inl (nI (rwa (Vb.1 23) k + rwn (Vb.1 23) k))), (4, .inl (nI w)), (0, .inr (.inr (some 129))), (1, .inr (.inr (some m))), (3, .inl (nI fn))], [], Hsb)) (C := []) rfl trivial ?_
            rw [(show ((nI k) + 1) = (nI (k + 1)) from (nI_add k 1))]
            refine mw_go mu_g290 (k := 1) (f1 := (10, [(2, .inl (nI (k + 1))), (5, .inl (nI (rwa (Vb.1 23) k + rwn (Vb.1 23) k))), (4, .inl (nI w)), (0, .inr (.inr (some 129))), (1, .inr (.inr (some m))), (3, .inl (nI fn))], [], Hsb)) (C := []) rfl trivial ?_
            exact mw_sub (by simp) (iha (k + 1, Hsb) ⟨ub, htb, (show uq F290a U (ud m Hsb) from by rw [db]; exact (zza.tr zzb rfl)), (show (k + 1) ≤ ((ud m Hsb).1 23).1 from by rw [db]; exact (by omega)), (show ((ud m Hsb).1 23).1 ≤ max (U.1 23).1 2048 from by rw [db]; exact (by omega)), (show ∀ r, r < ((ud m Hsb).1 23).1 → PCT Y es ((ud m Hsb).1 23) r from by rw [db]; exact hPCb), (show ∀ s u, PND Y U f P od ((ud m Hsb).1 23) s u ↔ PND Y U f P od (U.1 23) s u from by rw [db]; exact hPNb)⟩ (by show max (U.1 23).1 2048 - (k + 1) < max (U.1 23).1 2048 - k; omega))
        · -- 178: not (nI fn) < (nI (rwa (Vb.1 23) k + rwn (Vb.1 23) k))
          have nh8 : ¬ fn < (rwa (Vb.1 23) k + rwn (Vb.1 23) k) := fun z => h8 (show nI fn < nI (rwa (Vb.1 23) k + rwn (Vb.1 23) k) from (nI_ltI (by omega) (by omega)).mpr z)
          refine mw_go mu_g290 (k := 1) (f1 := (181, [(2, .inl ((nI k) + 1)), (5, .inl (nI (rwa (Vb.1 23) k + rwn (Vb.1 23) k))), (4, .inl (nI w)), (0, .inr (.inr (some 129))), (1, .inr (.inr (some m))), (3, .inl (nI fn))], [], Hsb)) (C := []) rfl trivial ?_
          rw [(show ((nI k) + 1) = (nI (k + 1)) from (nI_add k 1))]
          refine mw_go mu_g290 (k := 1) (f1 := (10, [(2, .inl (nI (k + 1))), (5, .inl (nI (rwa (Vb.1 23) k + rwn (Vb.1 23) k))), (4, .inl (nI w)), (0, .inr (.inr (some 129))), (1, .inr (.inr (some m))), (3, .inl (nI fn))], [], Hsb)) (C := []) rfl trivial ?_
          exact mw_sub (by simp) (iha (k + 1, Hsb) ⟨ub, htb, (show uq F290a U (ud m Hsb) from by rw [db]; exact (zza.tr zzb rfl)), (show (k + 1) ≤ ((ud m Hsb).1 23).1 from by rw [db]; exact (by omega)), (show ((ud m Hsb).1 23).1 ≤ max (U.1 23).1 2048 from by rw [db]; exact (by omega)), (show ∀ r, r < ((ud m Hsb).1 23).1 → PCT Y es ((ud m Hsb).1 23) r from by rw [db]; exact hPCb), (show ∀ s u, PND Y U f P od ((ud m Hsb).1 23) s u ↔ PND Y U f P od (U.1 23) s u from by rw [db]; exact hPNb)⟩ (by show max (U.1 23).1 2048 - (k + 1) < max (U.1 23).1 2048 - k; omega))
      · -- 178: not (nI (Vb.1 23).1) < (2048 : Int32)
        have nh6 : ¬ ((Vb.1 23).1) < 2048 := fun z => h6 (show nI ((Vb.1 23).1) < nI 2048 from (nI_ltI (by omega) (by omega)).mpr z)
        refine mw_go mu_g290 (k := 1) (f1 := (181, [(2, .inl ((nI k) + 1)), (4, .inl (nI w)), (0, .inr (.inr (some 129))), (1, .inr (.inr (some m))), (3, .inl (nI fn))], [], Hsb)) (C := []) rfl trivial ?_
        rw [(show ((nI k) + 1) = (nI (k + 1)) from (nI_add k 1))]
        refine mw_go mu_g290 (k := 1) (f1 := (10, [(2, .inl (nI (k + 1))), (4, .inl (nI w)), (0, .inr (.inr (some 129))), (1, .inr (.inr (some m))), (3, .inl (nI fn))], [], Hsb)) (C := []) rfl trivial ?_
        exact mw_sub (by simp) (iha (k + 1, Hsb) ⟨ub, htb, (show uq F290a U (ud m Hsb) from by rw [db]; exact (zza.tr zzb rfl)), (show (k + 1) ≤ ((ud m Hsb).1 23).1 from by rw [db]; exact (by omega)), (show ((ud m Hsb).1 23).1 ≤ max (U.1 23).1 2048 from by rw [db]; exact (by omega)), (show ∀ r, r < ((ud m Hsb).1 23).1 → PCT Y es ((ud m Hsb).1 23) r from by rw [db]; exact hPCb), (show ∀ s u, PND Y U f P od ((ud m Hsb).1 23) s u ↔ PND Y U f P od (U.1 23) s u from by rw [db]; exact hPNb)⟩ (by show max (U.1 23).1 2048 - (k + 1) < max (U.1 23).1 2048 - k; omega))
    · -- 178: not (nI w) < (65536 : Int32)
      have nh5 : ¬ w < 65536 := fun z => h5 (show nI w < nI 65536 from (nI_ltI (by omega) (by omega)).mpr z)
      refine mw_go mu_g290 (k := 1) (f1 := (181, [(2, .inl ((nI k) + 1)), (4, .inl (nI w)), (0, .inr (.inr (some 129))), (1, .inr (.inr (some m))), (3, .inl (nI fn))], [], Hsb)) (C := []) rfl trivial ?_
      rw [(show ((nI k) + 1) = (nI (k + 1)) from (nI_add k 1))]
      refine mw_go mu_g290 (k := 1) (f1 := (10, [(2, .inl (nI (k + 1))), (4, .inl (nI w)), (0, .inr (.inr (some 129))), (1, .inr (.inr (some m))), (3, .inl (nI fn))], [], Hsb)) (C := []) rfl trivial ?_
      exact mw_sub (by simp) (iha (k + 1, Hsb) ⟨ub, htb, (show uq F290a U (ud m Hsb) from by rw [db]; exact (zza.tr zzb rfl)), (show (k + 1) ≤ ((ud m Hsb).1 23).1 from by rw [db]; exact (by omega)), (show ((ud m Hsb).1 23).1 ≤ max (U.1 23).1 2048 from by rw [db]; exact (by omega)), (show ∀ r, r < ((ud m Hsb).1 23).1 → PCT Y es ((ud m Hsb).1 23) r from by rw [db]; exact hPCb), (show ∀ s u, PND Y U f P od ((ud m Hsb).1 23) s u ↔ PND Y U f P od (U.1 23) s u from by rw [db]; exact hPNb)⟩ (by show max (U.1 23).1 2048 - (k + 1) < max (U.1 23).1 2048 - k; omega))
  · -- 184: not (nI k) < (nI (Va.1 23).1)
    have nh1 : ¬ k < ((Va.1 23).1) := fun z => h1 (show nI k < nI ((Va.1 23).1) from (nI_ltI (by omega) (by omega)).mpr z)
    refine mw_of (fun _ => mu_ret rfl trivial ⟨Hsa, rfl, ua, hta, (by rw [da]; exact qfa), ?_⟩)
    rw [da]
    exact ⟨hsza, hPCa, hPNa⟩
end SplitP
