/-! Machine.run -/
/-- what a leaf stands for, by the final values of slots that are ready -/
def lfy (U : Ud) (Y : Ts) (B l i q : Nat) (lv : Nat → Nat → Int32) (fv : Nat → Nat → Int32) (rdy : Nat → Prop) : Prop :=
  (oc Y q < 2 ∧ ∀ j, j < l → lv j q = (Y 0).2 q 1) ∨
  ((2 ≤ oc Y q ∧ oc Y q ≤ 3) ∧ ∃ r, (Y 0).2 q 1 = nI r ∧ (sp Y (im Y i) 6 ≤ r ∧ r < sp Y (im Y i + 1) 6) ∧
    (((Y 9).2 r 2 = 5 ∧ ∀ j, j < l → lv j q = rch Y r i) ∨
     ((Y 9).2 r 2 = 3 ∧ ∃ w, rch Y r i = nI w ∧ w < 2147483648 ∧ (U.1 15).2 w 2 = -1 ∧ ∀ j, j < l → lv j q = (U.1 15).2 w 3) ∨
     ((Y 9).2 r 2 = 3 ∧ ∃ w pl sl, rch Y r i = nI w ∧ w < 2147483648 ∧ (U.1 15).2 w 2 = nI pl ∧ pl < 14 ∧ (U.1 22).2 (if oc Y q = 3 then pl + 14 else pl) 0 = nI sl ∧ (sl < B ∧ rdy sl) ∧ ∀ j, j < l → lv j q = fv sl j) ∨
     ((¬ (Y 9).2 r 2 = 3 ∧ ¬ (Y 9).2 r 2 = 5) ∧ ∃ e sl, rch Y r i = nI e ∧ e < (U.2.2.1 100 3).1 ∧ (U.2.2.1 100 3).2 e = nI sl ∧ (sl < B ∧ rdy sl) ∧ ∀ j, j < l → lv j q = fv sl j)))
/-- a program: its code, its INSTANCE, and the leaves -/
def pgz (U : Ud) (Y : Ts) (O cp A l : Nat) (a N i : Nat) (lv fv : Nat → Nat → Int32) (rdy : Nat → Prop) : Prop :=
  (∀ n, n ≤ N → O + tpz Y a n ≤ A) ∧ sfz Y a N ≤ cp ∧ snz Y a N + 1 ≤ (U.2.2.1 100 15).1 ∧ i < (Y 11).1 ∧ a + N ≤ 67108864 ∧ 1 ≤ tpz Y a N ∧ (∀ n, n < N → okz Y a n l lv) ∧ ∀ n, n < N → oc Y (a + n) ≤ 3 → lfy U Y (O - cp) l i (a + n) lv fv rdy
section RunAll
variable {H : mu_H} {m d A W l s t k o f O p n q i a b sc cp slt N T S0 : Nat} {C : Nat → Nat} {U V V1 V' : Ud} {it : Nat → Nat} {Y : Ts} {lv fv : Nat → Nat → Int32} {rdy : Nat → Prop} {B : Nat}
theorem lfy_lfz (hl : lfy U Y B l i q lv fv rdy) (h15 : V.1 15 = U.1 15) (h22 : V.1 22 = U.1 22) (h3 : V.2.2.1 100 3 = U.2.2.1 100 3) (hc : ∀ s, rdy s → ∀ j, j < l → cvl V W s j = fv s j) : lfz V Y B W l i q lv := by
  unfold lfz
  rw [h15, h22, h3]
  rcases hl with z | ⟨hkk, r, er, hr, hq⟩
  · exact Or.inl z
  · refine Or.inr ⟨hkk, r, er, hr, ?_⟩
    rcases hq with z | z | ⟨hk, w, pl, sl, z1, z2, z3, z4, z5, z6, z7⟩ | ⟨hk, e, sl, z1, z2, z3, z4, z5⟩
    · exact Or.inl z
    · exact Or.inr (Or.inl z)
    · exact Or.inr (Or.inr (Or.inl ⟨hk, w, pl, sl, z1, z2, z3, z4, z5, z6.1, fun j hj => (z7 j hj).trans (hc sl z6.2 j hj).symm⟩))
    · exact Or.inr (Or.inr (Or.inr ⟨hk, e, sl, z1, z2, z3, z4.1, fun j hj => (z5 j hj).trans (hc sl z4.2 j hj).symm⟩))
theorem ri_0 (hx : mx V A W l) (h14 : V.2.1 100 14 = 0) (h13 : (V.2.2.1 100 13).1 ≤ 16777216) (h16 : V.2.1 100 16 = 0) (h15 : (V.2.2.1 100 15).2 0 = 0) : ri V V Y O cp A W l a 0 lv it :=
  ⟨⟨hx, h14, Nat.zero_le _, h13, fun k hk => absurd hk (Nat.not_lt_zero _)⟩, fun k hk => absurd hk (Nat.not_lt_zero _), fun k j hk => absurd hk (Nat.not_lt_zero _), ⟨h16, fun c hc => by rw [Nat.le_zero.mp hc]; exact h15, rfl⟩, fun x j hx => absurd hx (Nat.not_lt_zero _), fun s k _ _ => ckp.refl⟩
def F208b : Uf := ⟨[], [(100, 14), (100, 16)], [(100, 8), (100, 9), (100, 10), (100, 11), (100, 12), (100, 13), (100, 15)], [], [], false⟩
def F208 : Uf := ⟨[], [(100, 14), (100, 16), (100, 21)], [(100, 8), (100, 9), (100, 10), (100, 11), (100, 12), (100, 13), (100, 15)], [], [], false⟩
theorem mc_run1 {pa pN pi ps : Nat → Nat} {lv : Nat → Nat → Nat → Int32} (h : um m H) (e : ud m H = U) (hx : mx U A W l) (hsp : U.2.2.2.1 100 0 = some 99) (hmo : U.2.2.2.1 99 0 = some m) (hO : U.2.1 100 7 = nI O) (hcp : U.2.1 100 5 = nI cp) (h21 : U.2.1 100 21 = 1) (hcO : cp ≤ O) (hOA : O ≤ A) (hA : A ≤ 16777216)
    (h13 : A - O + 1 ≤ (U.2.2.1 100 13).1) (h13b : (U.2.2.1 100 13).1 ≤ 16777216) (h15 : (U.2.2.1 100 15).1 ≤ 16777216) (h3l : (U.2.2.1 100 3).1 ≤ 16777216) (hj : jv Y U.1) (hJ : JW Y)
    (hT : (U.1 21).1 = T) (hT1 : 1 ≤ T) (hT2 : T ≤ 67108864) (hpr : ∀ y, y < T → (U.1 21).2 y 0 = nI (pa y) ∧ (U.1 21).2 y 1 = nI (pa y + pN y) ∧ (U.1 21).2 y 2 = nI (pi y)) (hps : ∀ y, y + 1 < T → (U.1 21).2 y 3 = nI (ps y) ∧ ps y < O - cp) (hlast : ∀ y, y + 1 = T → (U.1 21).2 y 3 = -1)
    (hS0 : S0 ≤ O - cp) (hpg : ∀ y, y < T → pgz U Y O cp A l (pa y) (pN y) (pi y) (lv y) fv (fun s => s < S0 ∨ ∃ yq, yq < y ∧ s = ps yq)) (hfv : ∀ y, y + 1 < T → ∀ j, j < l → fv (ps y) j = svz Y (lv y j) (pa y) (pN y) 0)
    (hst0 : ∀ s, (s < S0 ∨ ∃ yq, yq < 0 ∧ s = ps yq) → ∀ j, j < l → cvl U W s j = fv s j) (hpS : ∀ y, y + 1 < T → S0 ≤ ps y) :
    mu_TV (mu_D (d + 6)) 208 [.inr (.inr (some 100))] H (fun H1 => um m H1 ∧ ur m C H H1 ∧ uq F208 U (ud m H1) ∧ ((ud m H1).2.1 100 21 = 0 ∧ ∃ V0 it, ri V0 (ud m H1) Y O cp A W l (pa (T - 1)) (pN (T - 1)) (lv (T - 1)) it) ∧ (∀ s, (s < S0 ∨ ∃ yq, yq < T - 1 ∧ s = ps yq) → ∀ j, j < l → cvl (ud m H1) W s j = fv s j) ∧ ∀ s k, s < S0 → k < W → ckp (ud m H1) U W s k) := by
  obtain ⟨hW, hl, hl1, hlW, hW2, hA8, c8, hA12, c12⟩ := hx
  refine mu_meth (M := mu_m208) rfl rfl ?_
  refine mw_ht (mu_fn_of (show [0].Nodup by decide)) ?_
  refine mw_go mu_g208 (k := 2) (f1 := (4, [(0, .inr (.inr (some 100)))], [.inr (.inr (mu_r H 100 0))], H)) (C := [mu_is H (some 100) 5]) rfl (show mu_is H (some 100) 5 from (h.1.1.is rfl)) ?_
  rw [(show mu_r H 100 0 = (some 99) from (ud_q (U := U) (m := m) (P := 100) (j := 0) e rfl).trans hsp)]
  refine mw_go mu_g208 (k := 1) (f1 := (7, [(0, .inr (.inr (some 100)))], [.inr (.inr (mu_r H 99 0))], H)) (C := [mu_is H (some 99) 13]) rfl (show mu_is H (some 99) 13 from (h.1.1.is rfl)) ?_
  rw [(show mu_r H 99 0 = (some m) from (ud_q (U := U) (m := m) (P := 99) (j := 0) e rfl).trans hmo)]
  refine mw_go mu_g208 (k := 3) (f1 := (12, [(1, .inr (.inr (some m))), (0, .inr (.inr (some 100)))], [.inl (mu_i H 100 21)], H)) (C := [mu_is H (some 100) 5]) rfl (show mu_is H (some 100) 5 from (h.1.1.is rfl)) ?_
  rw [(show mu_i H 100 21 = (1 : Int32) from (ud_i (U := U) (m := m) (P := 100) (j := 21) e rfl).trans h21)]
  refine mw_if (P := (1 : Int32) = 0) (a := 19) (b := 15) (fun _ => rfl) trivial (fun h1 => absurd h1 (by decide)) (fun h1 => ?_)
  refine mw_go mu_g208 (k := 3) (f1 := (29, [(2, .inl (0 : Int32)), (1, .inr (.inr (some m))), (0, .inr (.inr (some 100)))], [], H)) (C := []) rfl trivial ?_
  show mu_W _ _ (29, [(2, .inl (nI 0)), (1, .inr (.inr (some m))), (0, .inr (.inr (some 100)))], [], H) _
  refine mw_sub (L' := [(2, .inl (nI 0)), (0, .inr (.inr (some 100))), (1, .inr (.inr (some m)))]) (by simp) ?_
  refine mw_down (α := Nat × mu_H) (fun zs => (29, [(2, .inl (nI zs.1)), (0, .inr (.inr (some 100))), (1, .inr (.inr (some m)))], [], zs.2)) (fun zs => T - zs.1) (fun zs => um m zs.2 ∧ ur m C H zs.2 ∧ (uq F208b U (ud m zs.2)) ∧ (zs.1 ≤ T) ∧ (∀ s, (s < S0 ∨ ∃ yq, (yq < zs.1 ∧ yq + 1 < T) ∧ s = ps yq) → ∀ j, j < l → cvl (ud m zs.2) W s j = fv s j) ∧ (∀ s k, s < S0 → k < W → ckp (ud m zs.2) U W s k) ∧ (zs.1 = T → ∃ V0 it, ri V0 (ud m zs.2) Y O cp A W l (pa (T - 1)) (pN (T - 1)) (lv (T - 1)) it)) (fun zs hzb ihb => ?_) (0, H) ⟨h, (ur.refl m C H), (show uq F208b U (ud m H) from by rw [e]; exact uq.refl _ _), (show 0 ≤ T from (by omega)), (show ∀ s, (s < S0 ∨ ∃ yq, (yq < 0 ∧ yq + 1 < T) ∧ s = ps yq) → ∀ j, j < l → cvl (ud m H) W s j = fv s j from by rw [e]; exact (fun s hs => hst0 s (hs.imp id (fun w => ⟨w.choose, w.choose_spec.1.1, w.choose_spec.2⟩)))), (show ∀ s k, s < S0 → k < W → ckp (ud m H) U W s k from by rw [e]; exact (fun s k _ _ => ckp.refl)), (show 0 = T → ∃ V0 it, ri V0 (ud m H) Y O cp A W l (pa (T - 1)) (pN (T - 1)) (lv (T - 1)) it from by rw [e]; exact (fun w => absurd w (by omega)))⟩
  obtain ⟨y, Hsb⟩ := zs
  obtain ⟨ub, htb, db, hy, hB, hR, hE⟩ := hzb
  have ub : um m Hsb := ub
  have htb : ur m C H Hsb := htb
  have zzb : uq F208b U (ud m Hsb) := db
  have hy : y ≤ T := hy
  have hB : ∀ s, (s < S0 ∨ ∃ yq, (yq < y ∧ yq + 1 < T) ∧ s = ps yq) → ∀ j, j < l → cvl (ud m Hsb) W s j = fv s j := hB
  have hR : ∀ s k, s < S0 → k < W → ckp (ud m Hsb) U W s k := hR
  have hE : y = T → ∃ V0 it, ri V0 (ud m Hsb) Y O cp A W l (pa (T - 1)) (pN (T - 1)) (lv (T - 1)) it := hE
  obtain ⟨Vb, db⟩ : ∃ V, ud m Hsb = V := ⟨_, rfl⟩
  rw [db] at zzb hB hR hE
  have qfb : uq F208 U Vb := (uq.refl F208 U).tr zzb rfl
  show mu_W _ _ (29, [(2, .inl (nI y)), (0, .inr (.inr (some 100))), (1, .inr (.inr (some m)))], [], Hsb) _
  refine mw_go mu_g208 (k := 3) (f1 := (34, [(2, .inl (nI y)), (0, .inr (.inr (some 100))), (1, .inr (.inr (some m)))], [.inr (.inr (mu_r Hsb 100 1)), .inl (nI y)], Hsb)) (C := [mu_is Hsb (some 100) 5]) rfl (show mu_is Hsb (some 100) 5 from (ub.1.1.is rfl)) ?_
  rw [(ub.1.1.r (p := 100) (j := 1) (q := 101) rfl)]
  refine mw_go mu_g208 (k := 1) (f1 := (37, [(2, .inl (nI y)), (0, .inr (.inr (some 100))), (1, .inr (.inr (some m)))], [.inl (mu_i Hsb 101 2), .inl (nI y)], Hsb)) (C := [mu_is Hsb (some 101) 10]) rfl (show mu_is Hsb (some 101) 10 from (ub.1.1.is rfl)) ?_
  rw [(show mu_i Hsb 101 2 = (nI T) from (ub.size db (j := 21) (by decide) rfl).trans (congrArg nI ((congrArg Prod.fst (show Vb.1 21 = (U.1 21) from (zzb.t 21 rfl))).trans hT)))]
  refine mw_if (P := (nI y) < (nI T)) (a := 40) (b := 198) (fun _ => rfl) trivial (fun h2 => ?_) (fun h2 => ?_)
  · -- 40: (nI y) < (nI T)
    have nh2 : y < T := (nI_ltI (by omega) (by omega)).mp (show nI y < nI T from h2)
    have hyT : y < T := nh2
    obtain ⟨g1, g2, g3, g4, g5, g6, g7, g8⟩ := hpg y hyT
    refine mw_go mu_g208 (k := 2) (f1 := (44, [(2, .inl (nI y)), (0, .inr (.inr (some 100))), (1, .inr (.inr (some m)))], [.inr (.inr (mu_r Hsb 100 1))], Hsb)) (C := [mu_is Hsb (some 100) 5]) rfl (show mu_is Hsb (some 100) 5 from (ub.1.1.is rfl)) ?_
    rw [(ub.1.1.r (p := 100) (j := 1) (q := 101) rfl)]
    refine mw_go mu_g208 (k := 2) (f1 := (46, [(2, .inl (nI y)), (0, .inr (.inr (some 100))), (1, .inr (.inr (some m)))], [.inl (1 : Int32), .inl (nI y), .inr (.inr (some 101))], Hsb)) (C := []) rfl trivial ?_
    refine mw_cIe (fun _ => rfl) (show mu_is Hsb (some 101) 10 from (ub.1.1.is rfl)) (ub.getr (d := (d + 4)) db (j := 21) (by decide) rfl (nI y) (c := 1) (by decide)) ?_
    rw [show (tget (Vb.1 21) (nI y) 1) = (nI (pa y + pN y)) from ((congrArg (fun z => tget z (nI y) 1) (show Vb.1 21 = (U.1 21) from (zzb.t 21 rfl))).trans (tget_nI (by omega))).trans (hpr y hyT).2.1]
    refine mw_go mu_g208 (k := 3) (f1 := (54, [(3, .inl (nI (pa y + pN y))), (2, .inl (nI y)), (0, .inr (.inr (some 100))), (1, .inr (.inr (some m)))], [.inr (.inr (mu_r Hsb 100 1))], Hsb)) (C := [mu_is Hsb (some 100) 5]) rfl (show mu_is Hsb (some 100) 5 from (ub.1.1.is rfl)) ?_
    rw [(ub.1.1.r (p := 100) (j := 1) (q := 101) rfl)]
    refine mw_go mu_g208 (k := 2) (f1 := (56, [(3, .inl (nI (pa y + pN y))), (2, .inl (nI y)), (0, .inr (.inr (some 100))), (1, .inr (.inr (some m)))], [.inl (2 : Int32), .inl (nI y), .inr (.inr (some 101))], Hsb)) (C := []) rfl trivial ?_
    refine mw_cIe (fun _ => rfl) (show mu_is Hsb (some 101) 10 from (ub.1.1.is rfl)) (ub.getr (d := (d + 4)) db (j := 21) (by decide) rfl (nI y) (c := 2) (by decide)) ?_
    rw [show (tget (Vb.1 21) (nI y) 2) = (nI (pi y)) from ((congrArg (fun z => tget z (nI y) 2) (show Vb.1 21 = (U.1 21) from (zzb.t 21 rfl))).trans (tget_nI (by omega))).trans (hpr y hyT).2.2]
    refine mw_go mu_g208 (k := 4) (f1 := (66, [(4, .inl (nI (pi y))), (3, .inl (nI (pa y + pN y))), (2, .inl (nI y)), (0, .inr (.inr (some 100))), (1, .inr (.inr (some m)))], [], (mu_si Hsb 100 14 (0 : Int32)))) (C := [mu_is Hsb (some 100) 5]) rfl (show mu_is Hsb (some 100) 5 from (ub.1.1.is rfl)) ?_
    obtain ⟨u5, r5, d5⟩ : um m (mu_si Hsb 100 14 (0 : Int32)) ∧ ur m C Hsb (mu_si Hsb 100 14 (0 : Int32)) ∧ ud m (mu_si Hsb 100 14 (0 : Int32)) = (upI Vb 100 14 (0 : Int32)) := ub.sI (C := C) db rfl
    generalize (mu_si Hsb 100 14 (0 : Int32)) = Q5 at u5 r5 d5 ⊢
    have qf5 : uq F208 U (upI Vb 100 14 (0 : Int32)) := qfb.I rfl
    have ht5 : ur m C H Q5 := htb.trans r5
    refine mw_go mu_g208 (k := 3) (f1 := (71, [(4, .inl (nI (pi y))), (3, .inl (nI (pa y + pN y))), (2, .inl (nI y)), (0, .inr (.inr (some 100))), (1, .inr (.inr (some m)))], [], (mu_si Q5 100 16 (0 : Int32)))) (C := [mu_is Q5 (some 100) 5]) rfl (show mu_is Q5 (some 100) 5 from (u5.1.1.is rfl)) ?_
    obtain ⟨u6, r6, d6⟩ : um m (mu_si Q5 100 16 (0 : Int32)) ∧ ur m C Q5 (mu_si Q5 100 16 (0 : Int32)) ∧ ud m (mu_si Q5 100 16 (0 : Int32)) = (upI (upI Vb 100 14 (0 : Int32)) 100 16 (0 : Int32)) := u5.sI (C := C) d5 rfl
    generalize (mu_si Q5 100 16 (0 : Int32)) = Q6 at u6 r6 d6 ⊢
    have qf6 : uq F208 U (upI (upI Vb 100 14 (0 : Int32)) 100 16 (0 : Int32)) := qf5.I rfl
    have ht6 : ur m C H Q6 := ht5.trans r6
    refine mw_go mu_g208 (k := 2) (f1 := (75, [(4, .inl (nI (pi y))), (3, .inl (nI (pa y + pN y))), (2, .inl (nI y)), (0, .inr (.inr (some 100))), (1, .inr (.inr (some m)))], [.inr (.inr (mu_r Q6 100 15))], Q6)) (C := [mu_is Q6 (some 100) 5]) rfl (show mu_is Q6 (some 100) 5 from (u6.1.1.is rfl)) ?_
    rw [(show mu_r Q6 100 15 = (U.2.2.2.1 100 15) from (ud_q (U := (upI (upI Vb 100 14 (0 : Int32)) 100 16 (0 : Int32))) (m := m) (P := 100) (j := 15) d6 rfl).trans (zzb.r 100 15 rfl))]
    refine mw_go mu_g208 (k := 3) (f1 := (78, [(4, .inl (nI (pi y))), (3, .inl (nI (pa y + pN y))), (2, .inl (nI y)), (0, .inr (.inr (some 100))), (1, .inr (.inr (some m)))], [], (mu_si Q6 (mu_p (U.2.2.2.1 100 15)) (0 : Int32).toNatClampNeg (0 : Int32)))) (C := [mu_is Q6 (U.2.2.2.1 100 15) 100, vp_in (0 : Int32) (mu_n Q6 (mu_p (U.2.2.2.1 100 15)))]) rfl (show (mu_is Q6 (U.2.2.2.1 100 15) 100) ∧ (vp_in (0 : Int32) (mu_n Q6 (mu_p (U.2.2.2.1 100 15)))) from ⟨(u6.iA d6 rfl rfl (show (upI (upI Vb 100 14 (0 : Int32)) 100 16 (0 : Int32)).2.2.2.1 100 15 = (U.2.2.2.1 100 15) from (zzb.r 100 15 rfl))), (u6.vA (i := 0) d6 rfl rfl (show (upI (upI Vb 100 14 (0 : Int32)) 100 16 (0 : Int32)).2.2.2.1 100 15 = (U.2.2.2.1 100 15) from (zzb.r 100 15 rfl)) (show ((upI (upI Vb 100 14 (0 : Int32)) 100 16 (0 : Int32)).2.2.1 100 15).1 = (U.2.2.1 100 15).1 from (zzb.n 100 15 rfl)) (by omega) (by omega))⟩) ?_
    rw [(show (0 : Int32).toNatClampNeg = 0 from by decide)]
    obtain ⟨u7, r7, d7⟩ : um m (mu_si Q6 (mu_p (U.2.2.2.1 100 15)) 0 (0 : Int32)) ∧ ur m C Q6 (mu_si Q6 (mu_p (U.2.2.2.1 100 15)) 0 (0 : Int32)) ∧ ud m (mu_si Q6 (mu_p (U.2.2.2.1 100 15)) 0 (0 : Int32)) = (upA (upI (upI Vb 100 14 (0 : Int32)) 100 16 (0 : Int32)) 100 15 0 (0 : Int32)) := u6.sA (C := C) d6 rfl rfl (show (upI (upI Vb 100 14 (0 : Int32)) 100 16 (0 : Int32)).2.2.2.1 100 15 = (U.2.2.2.1 100 15) from (zzb.r 100 15 rfl))
    generalize (mu_si Q6 (mu_p (U.2.2.2.1 100 15)) 0 (0 : Int32)) = Q7 at u7 r7 d7 ⊢
    have qf7 : uq F208 U (upA (upI (upI Vb 100 14 (0 : Int32)) 100 16 (0 : Int32)) 100 15 0 (0 : Int32)) := qf6.A rfl
    have ht7 : ur m C H Q7 := ht6.trans r7
    refine mw_go mu_g208 (k := 2) (f1 := (82, [(4, .inl (nI (pi y))), (3, .inl (nI (pa y + pN y))), (2, .inl (nI y)), (0, .inr (.inr (some 100))), (1, .inr (.inr (some m)))], [.inr (.inr (mu_r Q7 100 1))], Q7)) (C := [mu_is Q7 (some 100) 5]) rfl (show mu_is Q7 (some 100) 5 from (u7.1.1.is rfl)) ?_
    rw [(u7.1.1.r (p := 100) (j := 1) (q := 101) rfl)]
    refine mw_go mu_g208 (k := 2) (f1 := (84, [(4, .inl (nI (pi y))), (3, .inl (nI (pa y + pN y))), (2, .inl (nI y)), (0, .inr (.inr (some 100))), (1, .inr (.inr (some m)))], [.inl (0 : Int32), .inl (nI y), .inr (.inr (some 101))], Q7)) (C := []) rfl trivial ?_
    refine mw_cIe (fun _ => rfl) (show mu_is Q7 (some 101) 10 from (u7.1.1.is rfl)) (u7.getr (d := (d + 4)) d7 (j := 21) (by decide) rfl (nI y) (c := 0) (by decide)) ?_
    rw [show (tget ((upA (upI (upI Vb 100 14 (0 : Int32)) 100 16 (0 : Int32)) 100 15 0 (0 : Int32)).1 21) (nI y) 0) = (nI (pa y)) from ((congrArg (fun z => tget z (nI y) 0) (show (upA (upI (upI Vb 100 14 (0 : Int32)) 100 16 (0 : Int32)) 100 15 0 (0 : Int32)).1 21 = (U.1 21) from (zzb.t 21 rfl))).trans (tget_nI (by omega))).trans (hpr y hyT).1]
    refine mw_go mu_g208 (k := 1) (f1 := (89, [(5, .inl (nI (pa y))), (4, .inl (nI (pi y))), (3, .inl (nI (pa y + pN y))), (2, .inl (nI y)), (0, .inr (.inr (some 100))), (1, .inr (.inr (some m)))], [], Q7)) (C := []) rfl trivial ?_
    have hjV : jv Y (upA (upI (upI Vb 100 14 (0 : Int32)) 100 16 (0 : Int32)) 100 15 0 (0 : Int32)).1 := by rw [show (upA (upI (upI Vb 100 14 (0 : Int32)) 100 16 (0 : Int32)) 100 15 0 (0 : Int32)).1 = U.1 from funext fun q => zzb.t q rfl]; exact hj
    have hxV : mx (upA (upI (upI Vb 100 14 (0 : Int32)) 100 16 (0 : Int32)) 100 15 0 (0 : Int32)) A W l := (show mx (upA (upI (upI Vb 100 14 (0 : Int32)) 100 16 (0 : Int32)) 100 15 0 (0 : Int32)) A W l from ⟨((zzb.i 100 17 rfl).trans hW), ((zzb.i 100 18 rfl).trans hl), hl1, hlW, hW2, by rw [(show ((upA (upI (upI Vb 100 14 (0 : Int32)) 100 16 (0 : Int32)) 100 15 0 (0 : Int32)).2.2.1 100 8).1 = (U.2.2.1 100 8).1 from (zzb.n 100 8 rfl))]; exact hA8, by rw [(show ((upA (upI (upI Vb 100 14 (0 : Int32)) 100 16 (0 : Int32)) 100 15 0 (0 : Int32)).2.2.1 100 8).1 = (U.2.2.1 100 8).1 from (zzb.n 100 8 rfl))]; exact c8, by rw [(show ((upA (upI (upI Vb 100 14 (0 : Int32)) 100 16 (0 : Int32)) 100 15 0 (0 : Int32)).2.2.1 100 12).1 = (U.2.2.1 100 12).1 from (zzb.n 100 12 rfl))]; exact hA12, by rw [(show ((upA (upI (upI Vb 100 14 (0 : Int32)) 100 16 (0 : Int32)) 100 15 0 (0 : Int32)).2.2.1 100 12).1 = (U.2.2.1 100 12).1 from (zzb.n 100 12 rfl))]; exact c12⟩)
    have hB2 : ∀ s, (s < S0 ∨ ∃ yq, yq < y ∧ s = ps yq) → ∀ j, j < l → cvl (upA (upI (upI Vb 100 14 (0 : Int32)) 100 16 (0 : Int32)) 100 15 0 (0 : Int32)) W s j = fv s j := fun s hs => hB s (hs.imp id (fun w => ⟨w.choose, ⟨w.choose_spec.1, by have := w.choose_spec.1; omega⟩, w.choose_spec.2⟩))
    refine mw_sub (L' := [(5, .inl (nI (pa y))), (0, .inr (.inr (some 100))), (1, .inr (.inr (some m))), (2, .inl (nI y)), (3, .inl (nI (pa y + pN y))), (4, .inl (nI (pi y)))]) (by simp) ?_
    refine rn_loop (C := C) (O := O) (cp := cp) (A := A) (W := W) (l := l) (a := pa y) (N := pN y) (i := pi y) (b := pa y + pN y) (Y := Y) (lv := lv y) (it0 := fun _ => 0) (x2 := nI y) u7 d7 ((zzb.r 100 0 rfl).trans hsp) ((zzb.r 99 0 rfl).trans hmo) (show ((upA (upI (upI Vb 100 14 (0 : Int32)) 100 16 (0 : Int32)) 100 15 0 (0 : Int32)).2.1 100 7) = nI O from ((zzb.i 100 7 rfl).trans hO)) (show ((upA (upI (upI Vb 100 14 (0 : Int32)) 100 16 (0 : Int32)) 100 15 0 (0 : Int32)).2.1 100 5) = nI cp from ((zzb.i 100 5 rfl).trans hcp)) hcO hOA hA g1 (by rw [(show ((upA (upI (upI Vb 100 14 (0 : Int32)) 100 16 (0 : Int32)) 100 15 0 (0 : Int32)).2.2.1 100 13).1 = (U.2.2.1 100 13).1 from (zzb.n 100 13 rfl))]; exact h13) (by rw [(show ((upA (upI (upI Vb 100 14 (0 : Int32)) 100 16 (0 : Int32)) 100 15 0 (0 : Int32)).2.2.1 100 13).1 = (U.2.2.1 100 13).1 from (zzb.n 100 13 rfl))]; exact h13b) g2 (by rw [(show ((upA (upI (upI Vb 100 14 (0 : Int32)) 100 16 (0 : Int32)) 100 15 0 (0 : Int32)).2.2.1 100 15).1 = (U.2.2.1 100 15).1 from (zzb.n 100 15 rfl))]; exact g3) (by rw [(show ((upA (upI (upI Vb 100 14 (0 : Int32)) 100 16 (0 : Int32)) 100 15 0 (0 : Int32)).2.2.1 100 15).1 = (U.2.2.1 100 15).1 from (zzb.n 100 15 rfl))]; exact h15) (by rw [(show ((upA (upI (upI Vb 100 14 (0 : Int32)) 100 16 (0 : Int32)) 100 15 0 (0 : Int32)).2.2.1 100 3).1 = (U.2.2.1 100 3).1 from (zzb.n 100 3 rfl))]; exact h3l) hjV hJ g4 rfl g5 g7 (fun n hn hle => lfy_lfz (g8 n hn hle) (zzb.t 15 rfl) (zzb.t 22 rfl) (zzb.a 100 3 rfl) hB2) (ri_0 hxV rfl (by rw [(show ((upA (upI (upI Vb 100 14 (0 : Int32)) 100 16 (0 : Int32)) 100 15 0 (0 : Int32)).2.2.1 100 13).1 = (U.2.2.1 100 13).1 from (zzb.n 100 13 rfl))]; exact h13b) rfl rfl) (fun Q9 V9 it _ u9 r9 d9 z9 hri => ?_)
    have ht9 : ur m C H Q9 := ht7.trans r9
    have qf9 : uq F208 U V9 := qf7.tr z9 rfl
    have hb9 : ∀ s, s < O - cp → (s < S0 ∨ ∃ yq, yq < y ∧ s = ps yq) → ∀ j, j < l → cvl V9 W s j = fv s j := fun s hs hr j hj => (hri.2.2.2.2.2 s j hs (by omega)).1.trans (hB2 s hr j hj)
    have hr9 : ∀ s k, s < S0 → k < W → ckp V9 U W s k := fun s k hs hk => (hri.2.2.2.2.2 s k (by omega) hk).trans (show ckp (upA (upI (upI Vb 100 14 (0 : Int32)) 100 16 (0 : Int32)) 100 15 0 (0 : Int32)) U W s k from hR s k hs hk)
    have ht13 := hri.1.2.2.1
    have hc13 := hri.1.2.2.2.1
    refine mw_go mu_g208 (k := 2) (f1 := (168, [(0, .inr (.inr (some 100))), (1, .inr (.inr (some m))), (2, .inl (nI y))], [.inr (.inr (mu_r Q9 100 1))], Q9)) (C := [mu_is Q9 (some 100) 5]) rfl (show mu_is Q9 (some 100) 5 from (u9.1.1.is rfl)) ?_
    rw [(u9.1.1.r (p := 100) (j := 1) (q := 101) rfl)]
    refine mw_go mu_g208 (k := 2) (f1 := (170, [(0, .inr (.inr (some 100))), (1, .inr (.inr (some m))), (2, .inl (nI y))], [.inl (3 : Int32), .inl (nI y), .inr (.inr (some 101))], Q9)) (C := []) rfl trivial ?_
    refine mw_cIe (fun _ => rfl) (show mu_is Q9 (some 101) 10 from (u9.1.1.is rfl)) (u9.getr (d := (d + 4)) d9 (j := 21) (by decide) rfl (nI y) (c := 3) (by decide)) ?_
    rw [show (tget (V9.1 21) (nI y) 3) = ((U.1 21).2 y 3) from (congrArg (fun z => tget z (nI y) 3) (show V9.1 21 = (U.1 21) from ((z9.t 21 rfl).trans (zzb.t 21 rfl)))).trans (tget_nI (by omega))]
    refine mw_go mu_g208 (k := 2) (f1 := (177, [(5, .inl ((U.1 21).2 y 3)), (0, .inr (.inr (some 100))), (1, .inr (.inr (some m))), (2, .inl (nI y))], [.inl ((U.1 21).2 y 3)], Q9)) (C := []) rfl trivial ?_
    refine mw_if (P := ((U.1 21).2 y 3) < 0) (a := 192) (b := 180) (fun _ => rfl) trivial (fun h11 => ?_) (fun h11 => ?_)
    · -- 192: ((U.1 21).2 y 3) < 0
      have hyl : y + 1 = T := Nat.le_antisymm (by omega) (Nat.le_of_not_lt (fun w => by have z1 := h11; rw [(hps y w).1] at z1; exact nI_pos (by have := (hps y w).2; omega) z1))
      refine mw_go mu_g208 (k := 1) (f1 := (195, [(2, .inl ((nI y) + 1)), (5, .inl ((U.1 21).2 y 3)), (0, .inr (.inr (some 100))), (1, .inr (.inr (some m)))], [], Q9)) (C := []) rfl trivial ?_
      rw [(show ((nI y) + 1) = (nI (y + 1)) from (nI_add y 1))]
      refine mw_go mu_g208 (k := 1) (f1 := (29, [(2, .inl (nI (y + 1))), (5, .inl ((U.1 21).2 y 3)), (0, .inr (.inr (some 100))), (1, .inr (.inr (some m)))], [], Q9)) (C := []) rfl trivial ?_
      exact mw_sub (by simp) (ihb (y + 1, Q9) ⟨u9, ht9, (show uq F208b U (ud m Q9) from by rw [d9]; exact ((((zzb.I rfl).I rfl).A rfl).tr z9 rfl)), (show (y + 1) ≤ T from (by omega)), (show ∀ s, (s < S0 ∨ ∃ yq, (yq < (y + 1) ∧ yq + 1 < T) ∧ s = ps yq) → ∀ j, j < l → cvl (ud m Q9) W s j = fv s j from by rw [d9]; exact (fun s hs j hj => hb9 s (by rcases hs with w | ⟨y2, w1, w2⟩; exact Nat.lt_of_lt_of_le w hS0; exact (by rw [w2]; exact (hps y2 w1.2).2)) (by rcases hs with w | ⟨y2, w1, w2⟩; exact Or.inl w; exact Or.inr ⟨y2, by have := w1.2; omega, w2⟩) j hj)), (show ∀ s k, s < S0 → k < W → ckp (ud m Q9) U W s k from by rw [d9]; exact (fun s k hs hk => hr9 s k hs hk)), (show (y + 1) = T → ∃ V0 it, ri V0 (ud m Q9) Y O cp A W l (pa (T - 1)) (pN (T - 1)) (lv (T - 1)) it from by rw [d9]; exact (fun w => ⟨_, it, by rw [show T - 1 = y by omega]; exact hri⟩))⟩ (by show T - (y + 1) < T - y; omega))
    · -- 180: not ((U.1 21).2 y 3) < 0
      have hyl : y + 1 < T := Nat.lt_of_le_of_ne (by omega) (fun w => h11 (by rw [hlast y w]; decide))
      have hps1 := hps y hyl
      rw [show ((U.1 21).2 y 3) = nI (ps y) from hps1.1]
      refine mw_go mu_g208 (k := 3) (f1 := (185, [(5, .inl (nI (ps y))), (0, .inr (.inr (some 100))), (1, .inr (.inr (some m))), (2, .inl (nI y))], [.inr (.inr (mu_r Q9 100 13)), .inr (.inr (some 100))], Q9)) (C := [mu_is Q9 (some 100) 5]) rfl (show mu_is Q9 (some 100) 5 from (u9.1.1.is rfl)) ?_
      rw [(show mu_r Q9 100 13 = (U.2.2.2.1 100 13) from (ud_q (U := V9) (m := m) (P := 100) (j := 13) d9 rfl).trans ((z9.r 100 13 rfl).trans (zzb.r 100 13 rfl)))]
      refine mw_go mu_g208 (k := 2) (f1 := (187, [(5, .inl (nI (ps y))), (0, .inr (.inr (some 100))), (1, .inr (.inr (some m))), (2, .inl (nI y))], [.inl (mu_i Q9 (mu_p (U.2.2.2.1 100 13)) (0 : Int32).toNatClampNeg), .inr (.inr (some 100))], Q9)) (C := [mu_isr Q9 (U.2.2.2.1 100 13) 100, vp_in (0 : Int32) (mu_n Q9 (mu_p (U.2.2.2.1 100 13)))]) rfl (show (mu_isr Q9 (U.2.2.2.1 100 13) 100) ∧ (vp_in (0 : Int32) (mu_n Q9 (mu_p (U.2.2.2.1 100 13)))) from ⟨((u9.iA d9 rfl rfl (show V9.2.2.2.1 100 13 = (U.2.2.2.1 100 13) from ((z9.r 100 13 rfl).trans (zzb.r 100 13 rfl))))).r, (u9.vA (i := 0) d9 rfl rfl (show V9.2.2.2.1 100 13 = (U.2.2.2.1 100 13) from ((z9.r 100 13 rfl).trans (zzb.r 100 13 rfl))) (show (V9.2.2.1 100 13).1 = (U.2.2.1 100 13).1 from ((z9.n 100 13 rfl).trans (zzb.n 100 13 rfl))) (by omega) (by omega))⟩) ?_
      rw [(show (mu_i Q9 (mu_p (U.2.2.2.1 100 13)) (0 : Int32).toNatClampNeg) = (nI (it 0)) from ((congrArg (mu_i Q9 (mu_p (U.2.2.2.1 100 13))) (show (0 : Int32).toNatClampNeg = 0 from by decide)).trans (u9.gA d9 rfl rfl (show V9.2.2.2.1 100 13 = (U.2.2.2.1 100 13) from ((z9.r 100 13 rfl).trans (zzb.r 100 13 rfl))))).trans ((congrArg (fun z => z.2 0) (show V9.2.2.1 100 13 = (V9.2.2.1 100 13) from rfl)).trans (hri.1.2.2.2.2 0 (by omega)).1))]
      have hJ0 := (hri.1.2.2.2.2 0 (by omega)).2
      refine mw_go mu_g208 (k := 1) (f1 := (189, [(5, .inl (nI (ps y))), (0, .inr (.inr (some 100))), (1, .inr (.inr (some m))), (2, .inl (nI y))], [.inl (nI (ps y)), .inl (nI (it 0)), .inr (.inr (some 100))], Q9)) (C := []) rfl trivial ?_
      refine mw_cV (fun _ => rfl) (show mu_is Q9 (some 100) 5 from (u9.1.1.is rfl)) (mc_copy2 (d := (d + 4)) (C := C) (s := it 0) (t := ps y) u9 d9 hri.1.1 hJ0 (by omega)) (fun Q12 q12 => ?_)
      obtain ⟨u12, r12, z12, ba, bb⟩ := q12
      have ht12 : ur m C H Q12 := ht9.trans r12
      obtain ⟨V12, d12⟩ : ∃ V, ud m Q12 = V := ⟨_, rfl⟩
      rw [d12] at z12 ba bb
      have qf12 : uq F208 U V12 := qf9.tr z12 rfl
      refine mw_go mu_g208 (k := 1) (f1 := (195, [(2, .inl ((nI y) + 1)), (5, .inl (nI (ps y))), (0, .inr (.inr (some 100))), (1, .inr (.inr (some m)))], [], Q12)) (C := []) rfl trivial ?_
      rw [(show ((nI y) + 1) = (nI (y + 1)) from (nI_add y 1))]
      refine mw_go mu_g208 (k := 1) (f1 := (29, [(2, .inl (nI (y + 1))), (5, .inl (nI (ps y))), (0, .inr (.inr (some 100))), (1, .inr (.inr (some m)))], [], Q12)) (C := []) rfl trivial ?_
      exact mw_sub (by simp) (ihb (y + 1, Q12) ⟨u12, ht12, (show uq F208b U (ud m Q12) from by rw [d12]; exact (((((zzb.I rfl).I rfl).A rfl).tr z9 rfl).tr z12 rfl)), (show (y + 1) ≤ T from (by omega)), (show ∀ s, (s < S0 ∨ ∃ yq, (yq < (y + 1) ∧ yq + 1 < T) ∧ s = ps yq) → ∀ j, j < l → cvl (ud m Q12) W s j = fv s j from by rw [d12]; exact (fun s hs j hj => by by_cases es : s = ps y; exact (by rw [es, ba j hj, hri.2.2.1 0 j (by omega) hj]; exact (hfv y hyl j hj).symm); exact (bb s j es (by omega)).1.trans (hb9 s (by rcases hs with w | ⟨y2, w1, w2⟩; exact Nat.lt_of_lt_of_le w hS0; exact (by rw [w2]; exact (hps y2 w1.2).2)) (by rcases hs with w | ⟨y2, w1, w2⟩; exact Or.inl w; exact Or.inr ⟨y2, Nat.lt_of_le_of_ne (Nat.le_of_lt_succ w1.1) (fun w3 => es (by rw [w2, w3])), w2⟩) j hj))), (show ∀ s k, s < S0 → k < W → ckp (ud m Q12) U W s k from by rw [d12]; exact (fun s k hs hk => (bb s k (by have := hpS y hyl; omega) hk).trans (hr9 s k hs hk))), (show (y + 1) = T → ∃ V0 it, ri V0 (ud m Q12) Y O cp A W l (pa (T - 1)) (pN (T - 1)) (lv (T - 1)) it from by rw [d12]; exact (fun w => absurd w (by omega)))⟩ (by show T - (y + 1) < T - y; omega))
  · -- 198: not (nI y) < (nI T)
    have nh2 : ¬ y < T := fun z => h2 (show nI y < nI T from (nI_ltI (by omega) (by omega)).mpr z)
    refine mw_go mu_g208 (k := 3) (f1 := (203, [(2, .inl (nI y)), (0, .inr (.inr (some 100))), (1, .inr (.inr (some m)))], [], (mu_si Hsb 100 21 (0 : Int32)))) (C := [mu_is Hsb (some 100) 5, (0 : Int32) = 0 ∨ (0 : Int32) = 1]) rfl (show (mu_is Hsb (some 100) 5) ∧ ((0 : Int32) = 0 ∨ (0 : Int32) = 1) from ⟨(ub.1.1.is rfl), Or.inl rfl⟩) ?_
    obtain ⟨u13, r13, d13⟩ : um m (mu_si Hsb 100 21 (0 : Int32)) ∧ ur m C Hsb (mu_si Hsb 100 21 (0 : Int32)) ∧ ud m (mu_si Hsb 100 21 (0 : Int32)) = (upI Vb 100 21 (0 : Int32)) := ub.sI (C := C) db rfl
    generalize (mu_si Hsb 100 21 (0 : Int32)) = Q13 at u13 r13 d13 ⊢
    have qf13 : uq F208 U (upI Vb 100 21 (0 : Int32)) := qfb.I rfl
    have ht13 : ur m C H Q13 := htb.trans r13
    obtain ⟨V0, it, hrF⟩ := hE (by omega)
    exact mw_of (fun _ => mu_ret rfl trivial ⟨Q13, rfl, u13, ht13, (by rw [d13]; exact qf13), (by rw [d13]; exact ⟨rfl, V0, it, hrF⟩), (by rw [d13]; exact fun s hs => hB s (by rcases hs with w | ⟨y2, w1, w2⟩; exact Or.inl w; exact Or.inr ⟨y2, ⟨by omega, by omega⟩, w2⟩)), (by rw [d13]; exact fun s k hs hk => hR s k hs hk)⟩)

theorem mc_run0 {pa pN pi ps : Nat → Nat} {lv : Nat → Nat → Nat → Int32} (h : um m H) (e : ud m H = U) (hx : mx U A W l) (hsp : U.2.2.2.1 100 0 = some 99) (hmo : U.2.2.2.1 99 0 = some m) (hO : U.2.1 100 7 = nI O) (hcp : U.2.1 100 5 = nI cp) (h21 : U.2.1 100 21 = 0) (hcO : cp ≤ O) (hOA : O ≤ A) (hA : A ≤ 16777216)
    (h13 : A - O + 1 ≤ (U.2.2.1 100 13).1) (h13b : (U.2.2.1 100 13).1 ≤ 16777216) (h15 : (U.2.2.1 100 15).1 ≤ 16777216) (h3l : (U.2.2.1 100 3).1 ≤ 16777216) (hj : jv Y U.1) (hJ : JW Y)
    (hT : (U.1 21).1 = T) (hT1 : 1 ≤ T) (hT2 : T ≤ 67108864) (hpr : ∀ y, y < T → (U.1 21).2 y 0 = nI (pa y) ∧ (U.1 21).2 y 1 = nI (pa y + pN y) ∧ (U.1 21).2 y 2 = nI (pi y)) (hps : ∀ y, y + 1 < T → (U.1 21).2 y 3 = nI (ps y) ∧ ps y < O - cp) (hlast : ∀ y, y + 1 = T → (U.1 21).2 y 3 = -1)
    (hS0 : S0 ≤ O - cp) (hpg : ∀ y, y < T → pgz U Y O cp A l (pa y) (pN y) (pi y) (lv y) fv (fun s => s < S0 ∨ ∃ yq, yq < y ∧ s = ps yq)) (hfv : ∀ y, y + 1 < T → ∀ j, j < l → fv (ps y) j = svz Y (lv y j) (pa y) (pN y) 0)
    (hst0 : ∀ s, (s < S0 ∨ ∃ yq, yq < T - 1 ∧ s = ps yq) → ∀ j, j < l → cvl U W s j = fv s j) (hpS : ∀ y, y + 1 < T → S0 ≤ ps y) :
    mu_TV (mu_D (d + 6)) 208 [.inr (.inr (some 100))] H (fun H1 => um m H1 ∧ ur m C H H1 ∧ uq F208 U (ud m H1) ∧ ((ud m H1).2.1 100 21 = 0 ∧ ∃ V0 it, ri V0 (ud m H1) Y O cp A W l (pa (T - 1)) (pN (T - 1)) (lv (T - 1)) it) ∧ (∀ s, (s < S0 ∨ ∃ yq, yq < T - 1 ∧ s = ps yq) → ∀ j, j < l → cvl (ud m H1) W s j = fv s j) ∧ ∀ s k, s < S0 → k < W → ckp (ud m H1) U W s k) := by
  obtain ⟨hW, hl, hl1, hlW, hW2, hA8, c8, hA12, c12⟩ := hx
  refine mu_meth (M := mu_m208) rfl rfl ?_
  refine mw_ht (mu_fn_of (show [0].Nodup by decide)) ?_
  refine mw_go mu_g208 (k := 2) (f1 := (4, [(0, .inr (.inr (some 100)))], [.inr (.inr (mu_r H 100 0))], H)) (C := [mu_is H (some 100) 5]) rfl (show mu_is H (some 100) 5 from (h.1.1.is rfl)) ?_
  rw [(show mu_r H 100 0 = (some 99) from (ud_q (U := U) (m := m) (P := 100) (j := 0) e rfl).trans hsp)]
  refine mw_go mu_g208 (k := 1) (f1 := (7, [(0, .inr (.inr (some 100)))], [.inr (.inr (mu_r H 99 0))], H)) (C := [mu_is H (some 99) 13]) rfl (show mu_is H (some 99) 13 from (h.1.1.is rfl)) ?_
  rw [(show mu_r H 99 0 = (some m) from (ud_q (U := U) (m := m) (P := 99) (j := 0) e rfl).trans hmo)]
  refine mw_go mu_g208 (k := 3) (f1 := (12, [(1, .inr (.inr (some m))), (0, .inr (.inr (some 100)))], [.inl (mu_i H 100 21)], H)) (C := [mu_is H (some 100) 5]) rfl (show mu_is H (some 100) 5 from (h.1.1.is rfl)) ?_
  rw [(show mu_i H 100 21 = (0 : Int32) from (ud_i (U := U) (m := m) (P := 100) (j := 21) e rfl).trans h21)]
  refine mw_if (P := (0 : Int32) = 0) (a := 19) (b := 15) (fun _ => rfl) trivial (fun h1 => ?_) (fun h1 => absurd (by decide) h1)
  refine mw_go mu_g208 (k := 2) (f1 := (23, [(1, .inr (.inr (some m))), (0, .inr (.inr (some 100)))], [.inr (.inr (mu_r H 100 1))], H)) (C := [mu_is H (some 100) 5]) rfl (show mu_is H (some 100) 5 from (h.1.1.is rfl)) ?_
  rw [(h.1.1.r (p := 100) (j := 1) (q := 101) rfl)]
  refine mw_go mu_g208 (k := 1) (f1 := (26, [(1, .inr (.inr (some m))), (0, .inr (.inr (some 100)))], [.inl (mu_i H 101 2)], H)) (C := [mu_is H (some 101) 10]) rfl (show mu_is H (some 101) 10 from (h.1.1.is rfl)) ?_
  rw [(show mu_i H 101 2 = (nI T) from (h.size e (j := 21) (by decide) rfl).trans (congrArg nI ((congrArg Prod.fst (show U.1 21 = (U.1 21) from rfl)).trans hT)))]
  refine mw_go mu_g208 (k := 2) (f1 := (28, [(1, .inr (.inr (some m))), (0, .inr (.inr (some 100)))], [.inl ((nI T) - (1 : Int32))], H)) (C := []) rfl trivial ?_
  rw [(show ((nI T) - (1 : Int32)) = (nI (T - 1)) from (nI_sub (a := T) (b := 1) (by omega)))]
  refine mw_go mu_g208 (k := 1) (f1 := (29, [(2, .inl (nI (T - 1))), (1, .inr (.inr (some m))), (0, .inr (.inr (some 100)))], [], H)) (C := []) rfl trivial ?_
  refine mw_sub (L' := [(2, .inl (nI (T - 1))), (0, .inr (.inr (some 100))), (1, .inr (.inr (some m)))]) (by simp) ?_
  refine mw_down (α := Nat × mu_H) (fun zs => (29, [(2, .inl (nI zs.1)), (0, .inr (.inr (some 100))), (1, .inr (.inr (some m)))], [], zs.2)) (fun zs => T - zs.1) (fun zs => um m zs.2 ∧ ur m C H zs.2 ∧ (uq F208b U (ud m zs.2)) ∧ (zs.1 ≤ T) ∧ (∀ s, (s < S0 ∨ ∃ yq, (yq < zs.1 ∧ yq + 1 < T) ∧ s = ps yq) → ∀ j, j < l → cvl (ud m zs.2) W s j = fv s j) ∧ (∀ s k, s < S0 → k < W → ckp (ud m zs.2) U W s k) ∧ (zs.1 = T → ∃ V0 it, ri V0 (ud m zs.2) Y O cp A W l (pa (T - 1)) (pN (T - 1)) (lv (T - 1)) it)) (fun zs hzb ihb => ?_) (T - 1, H) ⟨h, (ur.refl m C H), (show uq F208b U (ud m H) from by rw [e]; exact uq.refl _ _), (show (T - 1) ≤ T from (by omega)), (show ∀ s, (s < S0 ∨ ∃ yq, (yq < (T - 1) ∧ yq + 1 < T) ∧ s = ps yq) → ∀ j, j < l → cvl (ud m H) W s j = fv s j from by rw [e]; exact (fun s hs => hst0 s (hs.imp id (fun w => ⟨w.choose, w.choose_spec.1.1, w.choose_spec.2⟩)))), (show ∀ s k, s < S0 → k < W → ckp (ud m H) U W s k from by rw [e]; exact (fun s k _ _ => ckp.refl)), (show (T - 1) = T → ∃ V0 it, ri V0 (ud m H) Y O cp A W l (pa (T - 1)) (pN (T - 1)) (lv (T - 1)) it from by rw [e]; exact (fun w => absurd w (by omega)))⟩
  obtain ⟨y, Hsb⟩ := zs
  obtain ⟨ub, htb, db, hy, hB, hR, hE⟩ := hzb
  have ub : um m Hsb := ub
  have htb : ur m C H Hsb := htb
  have zzb : uq F208b U (ud m Hsb) := db
  have hy : y ≤ T := hy
  have hB : ∀ s, (s < S0 ∨ ∃ yq, (yq < y ∧ yq + 1 < T) ∧ s = ps yq) → ∀ j, j < l → cvl (ud m Hsb) W s j = fv s j := hB
  have hR : ∀ s k, s < S0 → k < W → ckp (ud m Hsb) U W s k := hR
  have hE : y = T → ∃ V0 it, ri V0 (ud m Hsb) Y O cp A W l (pa (T - 1)) (pN (T - 1)) (lv (T - 1)) it := hE
  obtain ⟨Vb, db⟩ : ∃ V, ud m Hsb = V := ⟨_, rfl⟩
  rw [db] at zzb hB hR hE
  have qfb : uq F208 U Vb := (uq.refl F208 U).tr zzb rfl
  show mu_W _ _ (29, [(2, .inl (nI y)), (0, .inr (.inr (some 100))), (1, .inr (.inr (some m)))], [], Hsb) _
  refine mw_go mu_g208 (k := 3) (f1 := (34, [(2, .inl (nI y)), (0, .inr (.inr (some 100))), (1, .inr (.inr (some m)))], [.inr (.inr (mu_r Hsb 100 1)), .inl (nI y)], Hsb)) (C := [mu_is Hsb (some 100) 5]) rfl (show mu_is Hsb (some 100) 5 from (ub.1.1.is rfl)) ?_
  rw [(ub.1.1.r (p := 100) (j := 1) (q := 101) rfl)]
  refine mw_go mu_g208 (k := 1) (f1 := (37, [(2, .inl (nI y)), (0, .inr (.inr (some 100))), (1, .inr (.inr (some m)))], [.inl (mu_i Hsb 101 2), .inl (nI y)], Hsb)) (C := [mu_is Hsb (some 101) 10]) rfl (show mu_is Hsb (some 101) 10 from (ub.1.1.is rfl)) ?_
  rw [(show mu_i Hsb 101 2 = (nI T) from (ub.size db (j := 21) (by decide) rfl).trans (congrArg nI ((congrArg Prod.fst (show Vb.1 21 = (U.1 21) from (zzb.t 21 rfl))).trans hT)))]
  refine mw_if (P := (nI y) < (nI T)) (a := 40) (b := 198) (fun _ => rfl) trivial (fun h2 => ?_) (fun h2 => ?_)
  · -- 40: (nI y) < (nI T)
    have nh2 : y < T := (nI_ltI (by omega) (by omega)).mp (show nI y < nI T from h2)
    have hyT : y < T := nh2
    obtain ⟨g1, g2, g3, g4, g5, g6, g7, g8⟩ := hpg y hyT
    refine mw_go mu_g208 (k := 2) (f1 := (44, [(2, .inl (nI y)), (0, .inr (.inr (some 100))), (1, .inr (.inr (some m)))], [.inr (.inr (mu_r Hsb 100 1))], Hsb)) (C := [mu_is Hsb (some 100) 5]) rfl (show mu_is Hsb (some 100) 5 from (ub.1.1.is rfl)) ?_
    rw [(ub.1.1.r (p := 100) (j := 1) (q := 101) rfl)]
    refine mw_go mu_g208 (k := 2) (f1 := (46, [(2, .inl (nI y)), (0, .inr (.inr (some 100))), (1, .inr (.inr (some m)))], [.inl (1 : Int32), .inl (nI y), .inr (.inr (some 101))], Hsb)) (C := []) rfl trivial ?_
    refine mw_cIe (fun _ => rfl) (show mu_is Hsb (some 101) 10 from (ub.1.1.is rfl)) (ub.getr (d := (d + 4)) db (j := 21) (by decide) rfl (nI y) (c := 1) (by decide)) ?_
    rw [show (tget (Vb.1 21) (nI y) 1) = (nI (pa y + pN y)) from ((congrArg (fun z => tget z (nI y) 1) (show Vb.1 21 = (U.1 21) from (zzb.t 21 rfl))).trans (tget_nI (by omega))).trans (hpr y hyT).2.1]
    refine mw_go mu_g208 (k := 3) (f1 := (54, [(3, .inl (nI (pa y + pN y))), (2, .inl (nI y)), (0, .inr (.inr (some 100))), (1, .inr (.inr (some m)))], [.inr (.inr (mu_r Hsb 100 1))], Hsb)) (C := [mu_is Hsb (some 100) 5]) rfl (show mu_is Hsb (some 100) 5 from (ub.1.1.is rfl)) ?_
    rw [(ub.1.1.r (p := 100) (j := 1) (q := 101) rfl)]
    refine mw_go mu_g208 (k := 2) (f1 := (56, [(3, .inl (nI (pa y + pN y))), (2, .inl (nI y)), (0, .inr (.inr (some 100))), (1, .inr (.inr (some m)))], [.inl (2 : Int32), .inl (nI y), .inr (.inr (some 101))], Hsb)) (C := []) rfl trivial ?_
    refine mw_cIe (fun _ => rfl) (show mu_is Hsb (some 101) 10 from (ub.1.1.is rfl)) (ub.getr (d := (d + 4)) db (j := 21) (by decide) rfl (nI y) (c := 2) (by decide)) ?_
    rw [show (tget (Vb.1 21) (nI y) 2) = (nI (pi y)) from ((congrArg (fun z => tget z (nI y) 2) (show Vb.1 21 = (U.1 21) from (zzb.t 21 rfl))).trans (tget_nI (by omega))).trans (hpr y hyT).2.2]
    refine mw_go mu_g208 (k := 4) (f1 := (66, [(4, .inl (nI (pi y))), (3, .inl (nI (pa y + pN y))), (2, .inl (nI y)), (0, .inr (.inr (some 100))), (1, .inr (.inr (some m)))], [], (mu_si Hsb 100 14 (0 : Int32)))) (C := [mu_is Hsb (some 100) 5]) rfl (show mu_is Hsb (some 100) 5 from (ub.1.1.is rfl)) ?_
    obtain ⟨u5, r5, d5⟩ : um m (mu_si Hsb 100 14 (0 : Int32)) ∧ ur m C Hsb (mu_si Hsb 100 14 (0 : Int32)) ∧ ud m (mu_si Hsb 100 14 (0 : Int32)) = (upI Vb 100 14 (0 : Int32)) := ub.sI (C := C) db rfl
    generalize (mu_si Hsb 100 14 (0 : Int32)) = Q5 at u5 r5 d5 ⊢
    have qf5 : uq F208 U (upI Vb 100 14 (0 : Int32)) := qfb.I rfl
    have ht5 : ur m C H Q5 := htb.trans r5
    refine mw_go mu_g208 (k := 3) (f1 := (71, [(4, .inl (nI (pi y))), (3, .inl (nI (pa y + pN y))), (2, .inl (nI y)), (0, .inr (.inr (some 100))), (1, .inr (.inr (some m)))], [], (mu_si Q5 100 16 (0 : Int32)))) (C := [mu_is Q5 (some 100) 5]) rfl (show mu_is Q5 (some 100) 5 from (u5.1.1.is rfl)) ?_
    obtain ⟨u6, r6, d6⟩ : um m (mu_si Q5 100 16 (0 : Int32)) ∧ ur m C Q5 (mu_si Q5 100 16 (0 : Int32)) ∧ ud m (mu_si Q5 100 16 (0 : Int32)) = (upI (upI Vb 100 14 (0 : Int32)) 100 16 (0 : Int32)) := u5.sI (C := C) d5 rfl
    generalize (mu_si Q5 100 16 (0 : Int32)) = Q6 at u6 r6 d6 ⊢
    have qf6 : uq F208 U (upI (upI Vb 100 14 (0 : Int32)) 100 16 (0 : Int32)) := qf5.I rfl
    have ht6 : ur m C H Q6 := ht5.trans r6
    refine mw_go mu_g208 (k := 2) (f1 := (75, [(4, .inl (nI (pi y))), (3, .inl (nI (pa y + pN y))), (2, .inl (nI y)), (0, .inr (.inr (some 100))), (1, .inr (.inr (some m)))], [.inr (.inr (mu_r Q6 100 15))], Q6)) (C := [mu_is Q6 (some 100) 5]) rfl (show mu_is Q6 (some 100) 5 from (u6.1.1.is rfl)) ?_
    rw [(show mu_r Q6 100 15 = (U.2.2.2.1 100 15) from (ud_q (U := (upI (upI Vb 100 14 (0 : Int32)) 100 16 (0 : Int32))) (m := m) (P := 100) (j := 15) d6 rfl).trans (zzb.r 100 15 rfl))]
    refine mw_go mu_g208 (k := 3) (f1 := (78, [(4, .inl (nI (pi y))), (3, .inl (nI (pa y + pN y))), (2, .inl (nI y)), (0, .inr (.inr (some 100))), (1, .inr (.inr (some m)))], [], (mu_si Q6 (mu_p (U.2.2.2.1 100 15)) (0 : Int32).toNatClampNeg (0 : Int32)))) (C := [mu_is Q6 (U.2.2.2.1 100 15) 100, vp_in (0 : Int32) (mu_n Q6 (mu_p (U.2.2.2.1 100 15)))]) rfl (show (mu_is Q6 (U.2.2.2.1 100 15) 100) ∧ (vp_in (0 : Int32) (mu_n Q6 (mu_p (U.2.2.2.1 100 15)))) from ⟨(u6.iA d6 rfl rfl (show (upI (upI Vb 100 14 (0 : Int32)) 100 16 (0 : Int32)).2.2.2.1 100 15 = (U.2.2.2.1 100 15) from (zzb.r 100 15 rfl))), (u6.vA (i := 0) d6 rfl rfl (show (upI (upI Vb 100 14 (0 : Int32)) 100 16 (0 : Int32)).2.2.2.1 100 15 = (U.2.2.2.1 100 15) from (zzb.r 100 15 rfl)) (show ((upI (upI Vb 100 14 (0 : Int32)) 100 16 (0 : Int32)).2.2.1 100 15).1 = (U.2.2.1 100 15).1 from (zzb.n 100 15 rfl)) (by omega) (by omega))⟩) ?_
    rw [(show (0 : Int32).toNatClampNeg = 0 from by decide)]
    obtain ⟨u7, r7, d7⟩ : um m (mu_si Q6 (mu_p (U.2.2.2.1 100 15)) 0 (0 : Int32)) ∧ ur m C Q6 (mu_si Q6 (mu_p (U.2.2.2.1 100 15)) 0 (0 : Int32)) ∧ ud m (mu_si Q6 (mu_p (U.2.2.2.1 100 15)) 0 (0 : Int32)) = (upA (upI (upI Vb 100 14 (0 : Int32)) 100 16 (0 : Int32)) 100 15 0 (0 : Int32)) := u6.sA (C := C) d6 rfl rfl (show (upI (upI Vb 100 14 (0 : Int32)) 100 16 (0 : Int32)).2.2.2.1 100 15 = (U.2.2.2.1 100 15) from (zzb.r 100 15 rfl))
    generalize (mu_si Q6 (mu_p (U.2.2.2.1 100 15)) 0 (0 : Int32)) = Q7 at u7 r7 d7 ⊢
    have qf7 : uq F208 U (upA (upI (upI Vb 100 14 (0 : Int32)) 100 16 (0 : Int32)) 100 15 0 (0 : Int32)) := qf6.A rfl
    have ht7 : ur m C H Q7 := ht6.trans r7
    refine mw_go mu_g208 (k := 2) (f1 := (82, [(4, .inl (nI (pi y))), (3, .inl (nI (pa y + pN y))), (2, .inl (nI y)), (0, .inr (.inr (some 100))), (1, .inr (.inr (some m)))], [.inr (.inr (mu_r Q7 100 1))], Q7)) (C := [mu_is Q7 (some 100) 5]) rfl (show mu_is Q7 (some 100) 5 from (u7.1.1.is rfl)) ?_
    rw [(u7.1.1.r (p := 100) (j := 1) (q := 101) rfl)]
    refine mw_go mu_g208 (k := 2) (f1 := (84, [(4, .inl (nI (pi y))), (3, .inl (nI (pa y + pN y))), (2, .inl (nI y)), (0, .inr (.inr (some 100))), (1, .inr (.inr (some m)))], [.inl (0 : Int32), .inl (nI y), .inr (.inr (some 101))], Q7)) (C := []) rfl trivial ?_
    refine mw_cIe (fun _ => rfl) (show mu_is Q7 (some 101) 10 from (u7.1.1.is rfl)) (u7.getr (d := (d + 4)) d7 (j := 21) (by decide) rfl (nI y) (c := 0) (by decide)) ?_
    rw [show (tget ((upA (upI (upI Vb 100 14 (0 : Int32)) 100 16 (0 : Int32)) 100 15 0 (0 : Int32)).1 21) (nI y) 0) = (nI (pa y)) from ((congrArg (fun z => tget z (nI y) 0) (show (upA (upI (upI Vb 100 14 (0 : Int32)) 100 16 (0 : Int32)) 100 15 0 (0 : Int32)).1 21 = (U.1 21) from (zzb.t 21 rfl))).trans (tget_nI (by omega))).trans (hpr y hyT).1]
    refine mw_go mu_g208 (k := 1) (f1 := (89, [(5, .inl (nI (pa y))), (4, .inl (nI (pi y))), (3, .inl (nI (pa y + pN y))), (2, .inl (nI y)), (0, .inr (.inr (some 100))), (1, .inr (.inr (some m)))], [], Q7)) (C := []) rfl trivial ?_
    have hjV : jv Y (upA (upI (upI Vb 100 14 (0 : Int32)) 100 16 (0 : Int32)) 100 15 0 (0 : Int32)).1 := by rw [show (upA (upI (upI Vb 100 14 (0 : Int32)) 100 16 (0 : Int32)) 100 15 0 (0 : Int32)).1 = U.1 from funext fun q => zzb.t q rfl]; exact hj
    have hxV : mx (upA (upI (upI Vb 100 14 (0 : Int32)) 100 16 (0 : Int32)) 100 15 0 (0 : Int32)) A W l := (show mx (upA (upI (upI Vb 100 14 (0 : Int32)) 100 16 (0 : Int32)) 100 15 0 (0 : Int32)) A W l from ⟨((zzb.i 100 17 rfl).trans hW), ((zzb.i 100 18 rfl).trans hl), hl1, hlW, hW2, by rw [(show ((upA (upI (upI Vb 100 14 (0 : Int32)) 100 16 (0 : Int32)) 100 15 0 (0 : Int32)).2.2.1 100 8).1 = (U.2.2.1 100 8).1 from (zzb.n 100 8 rfl))]; exact hA8, by rw [(show ((upA (upI (upI Vb 100 14 (0 : Int32)) 100 16 (0 : Int32)) 100 15 0 (0 : Int32)).2.2.1 100 8).1 = (U.2.2.1 100 8).1 from (zzb.n 100 8 rfl))]; exact c8, by rw [(show ((upA (upI (upI Vb 100 14 (0 : Int32)) 100 16 (0 : Int32)) 100 15 0 (0 : Int32)).2.2.1 100 12).1 = (U.2.2.1 100 12).1 from (zzb.n 100 12 rfl))]; exact hA12, by rw [(show ((upA (upI (upI Vb 100 14 (0 : Int32)) 100 16 (0 : Int32)) 100 15 0 (0 : Int32)).2.2.1 100 12).1 = (U.2.2.1 100 12).1 from (zzb.n 100 12 rfl))]; exact c12⟩)
    have hB2 : ∀ s, (s < S0 ∨ ∃ yq, yq < y ∧ s = ps yq) → ∀ j, j < l → cvl (upA (upI (upI Vb 100 14 (0 : Int32)) 100 16 (0 : Int32)) 100 15 0 (0 : Int32)) W s j = fv s j := fun s hs => hB s (hs.imp id (fun w => ⟨w.choose, ⟨w.choose_spec.1, by have := w.choose_spec.1; omega⟩, w.choose_spec.2⟩))
    refine mw_sub (L' := [(5, .inl (nI (pa y))), (0, .inr (.inr (some 100))), (1, .inr (.inr (some m))), (2, .inl (nI y)), (3, .inl (nI (pa y + pN y))), (4, .inl (nI (pi y)))]) (by simp) ?_
    refine rn_loop (C := C) (O := O) (cp := cp) (A := A) (W := W) (l := l) (a := pa y) (N := pN y) (i := pi y) (b := pa y + pN y) (Y := Y) (lv := lv y) (it0 := fun _ => 0) (x2 := nI y) u7 d7 ((zzb.r 100 0 rfl).trans hsp) ((zzb.r 99 0 rfl).trans hmo) (show ((upA (upI (upI Vb 100 14 (0 : Int32)) 100 16 (0 : Int32)) 100 15 0 (0 : Int32)).2.1 100 7) = nI O from ((zzb.i 100 7 rfl).trans hO)) (show ((upA (upI (upI Vb 100 14 (0 : Int32)) 100 16 (0 : Int32)) 100 15 0 (0 : Int32)).2.1 100 5) = nI cp from ((zzb.i 100 5 rfl).trans hcp)) hcO hOA hA g1 (by rw [(show ((upA (upI (upI Vb 100 14 (0 : Int32)) 100 16 (0 : Int32)) 100 15 0 (0 : Int32)).2.2.1 100 13).1 = (U.2.2.1 100 13).1 from (zzb.n 100 13 rfl))]; exact h13) (by rw [(show ((upA (upI (upI Vb 100 14 (0 : Int32)) 100 16 (0 : Int32)) 100 15 0 (0 : Int32)).2.2.1 100 13).1 = (U.2.2.1 100 13).1 from (zzb.n 100 13 rfl))]; exact h13b) g2 (by rw [(show ((upA (upI (upI Vb 100 14 (0 : Int32)) 100 16 (0 : Int32)) 100 15 0 (0 : Int32)).2.2.1 100 15).1 = (U.2.2.1 100 15).1 from (zzb.n 100 15 rfl))]; exact g3) (by rw [(show ((upA (upI (upI Vb 100 14 (0 : Int32)) 100 16 (0 : Int32)) 100 15 0 (0 : Int32)).2.2.1 100 15).1 = (U.2.2.1 100 15).1 from (zzb.n 100 15 rfl))]; exact h15) (by rw [(show ((upA (upI (upI Vb 100 14 (0 : Int32)) 100 16 (0 : Int32)) 100 15 0 (0 : Int32)).2.2.1 100 3).1 = (U.2.2.1 100 3).1 from (zzb.n 100 3 rfl))]; exact h3l) hjV hJ g4 rfl g5 g7 (fun n hn hle => lfy_lfz (g8 n hn hle) (zzb.t 15 rfl) (zzb.t 22 rfl) (zzb.a 100 3 rfl) hB2) (ri_0 hxV rfl (by rw [(show ((upA (upI (upI Vb 100 14 (0 : Int32)) 100 16 (0 : Int32)) 100 15 0 (0 : Int32)).2.2.1 100 13).1 = (U.2.2.1 100 13).1 from (zzb.n 100 13 rfl))]; exact h13b) rfl rfl) (fun Q9 V9 it _ u9 r9 d9 z9 hri => ?_)
    have ht9 : ur m C H Q9 := ht7.trans r9
    have qf9 : uq F208 U V9 := qf7.tr z9 rfl
    have hb9 : ∀ s, s < O - cp → (s < S0 ∨ ∃ yq, yq < y ∧ s = ps yq) → ∀ j, j < l → cvl V9 W s j = fv s j := fun s hs hr j hj => (hri.2.2.2.2.2 s j hs (by omega)).1.trans (hB2 s hr j hj)
    have hr9 : ∀ s k, s < S0 → k < W → ckp V9 U W s k := fun s k hs hk => (hri.2.2.2.2.2 s k (by omega) hk).trans (show ckp (upA (upI (upI Vb 100 14 (0 : Int32)) 100 16 (0 : Int32)) 100 15 0 (0 : Int32)) U W s k from hR s k hs hk)
    have ht13 := hri.1.2.2.1
    have hc13 := hri.1.2.2.2.1
    refine mw_go mu_g208 (k := 2) (f1 := (168, [(0, .inr (.inr (some 100))), (1, .inr (.inr (some m))), (2, .inl (nI y))], [.inr (.inr (mu_r Q9 100 1))], Q9)) (C := [mu_is Q9 (some 100) 5]) rfl (show mu_is Q9 (some 100) 5 from (u9.1.1.is rfl)) ?_
    rw [(u9.1.1.r (p := 100) (j := 1) (q := 101) rfl)]
    refine mw_go mu_g208 (k := 2) (f1 := (170, [(0, .inr (.inr (some 100))), (1, .inr (.inr (some m))), (2, .inl (nI y))], [.inl (3 : Int32), .inl (nI y), .inr (.inr (some 101))], Q9)) (C := []) rfl trivial ?_
    refine mw_cIe (fun _ => rfl) (show mu_is Q9 (some 101) 10 from (u9.1.1.is rfl)) (u9.getr (d := (d + 4)) d9 (j := 21) (by decide) rfl (nI y) (c := 3) (by decide)) ?_
    rw [show (tget (V9.1 21) (nI y) 3) = ((U.1 21).2 y 3) from (congrArg (fun z => tget z (nI y) 3) (show V9.1 21 = (U.1 21) from ((z9.t 21 rfl).trans (zzb.t 21 rfl)))).trans (tget_nI (by omega))]
    refine mw_go mu_g208 (k := 2) (f1 := (177, [(5, .inl ((U.1 21).2 y 3)), (0, .inr (.inr (some 100))), (1, .inr (.inr (some m))), (2, .inl (nI y))], [.inl ((U.1 21).2 y 3)], Q9)) (C := []) rfl trivial ?_
    refine mw_if (P := ((U.1 21).2 y 3) < 0) (a := 192) (b := 180) (fun _ => rfl) trivial (fun h11 => ?_) (fun h11 => ?_)
    · -- 192: ((U.1 21).2 y 3) < 0
      have hyl : y + 1 = T := Nat.le_antisymm (by omega) (Nat.le_of_not_lt (fun w => by have z1 := h11; rw [(hps y w).1] at z1; exact nI_pos (by have := (hps y w).2; omega) z1))
      refine mw_go mu_g208 (k := 1) (f1 := (195, [(2, .inl ((nI y) + 1)), (5, .inl ((U.1 21).2 y 3)), (0, .inr (.inr (some 100))), (1, .inr (.inr (some m)))], [], Q9)) (C := []) rfl trivial ?_
      rw [(show ((nI y) + 1) = (nI (y + 1)) from (nI_add y 1))]
      refine mw_go mu_g208 (k := 1) (f1 := (29, [(2, .inl (nI (y + 1))), (5, .inl ((U.1 21).2 y 3)), (0, .inr (.inr (some 100))), (1, .inr (.inr (some m)))], [], Q9)) (C := []) rfl trivial ?_
      exact mw_sub (by simp) (ihb (y + 1, Q9) ⟨u9, ht9, (show uq F208b U (ud m Q9) from by rw [d9]; exact ((((zzb.I rfl).I rfl).A rfl).tr z9 rfl)), (show (y + 1) ≤ T from (by omega)), (show ∀ s, (s < S0 ∨ ∃ yq, (yq < (y + 1) ∧ yq + 1 < T) ∧ s = ps yq) → ∀ j, j < l → cvl (ud m Q9) W s j = fv s j from by rw [d9]; exact (fun s hs j hj => hb9 s (by rcases hs with w | ⟨y2, w1, w2⟩; exact Nat.lt_of_lt_of_le w hS0; exact (by rw [w2]; exact (hps y2 w1.2).2)) (by rcases hs with w | ⟨y2, w1, w2⟩; exact Or.inl w; exact Or.inr ⟨y2, by have := w1.2; omega, w2⟩) j hj)), (show ∀ s k, s < S0 → k < W → ckp (ud m Q9) U W s k from by rw [d9]; exact (fun s k hs hk => hr9 s k hs hk)), (show (y + 1) = T → ∃ V0 it, ri V0 (ud m Q9) Y O cp A W l (pa (T - 1)) (pN (T - 1)) (lv (T - 1)) it from by rw [d9]; exact (fun w => ⟨_, it, by rw [show T - 1 = y by omega]; exact hri⟩))⟩ (by show T - (y + 1) < T - y; omega))
    · -- 180: not ((U.1 21).2 y 3) < 0
      have hyl : y + 1 < T := Nat.lt_of_le_of_ne (by omega) (fun w => h11 (by rw [hlast y w]; decide))
      have hps1 := hps y hyl
      rw [show ((U.1 21).2 y 3) = nI (ps y) from hps1.1]
      refine mw_go mu_g208 (k := 3) (f1 := (185, [(5, .inl (nI (ps y))), (0, .inr (.inr (some 100))), (1, .inr (.inr (some m))), (2, .inl (nI y))], [.inr (.inr (mu_r Q9 100 13)), .inr (.inr (some 100))], Q9)) (C := [mu_is Q9 (some 100) 5]) rfl (show mu_is Q9 (some 100) 5 from (u9.1.1.is rfl)) ?_
      rw [(show mu_r Q9 100 13 = (U.2.2.2.1 100 13) from (ud_q (U := V9) (m := m) (P := 100) (j := 13) d9 rfl).trans ((z9.r 100 13 rfl).trans (zzb.r 100 13 rfl)))]
      refine mw_go mu_g208 (k := 2) (f1 := (187, [(5, .inl (nI (ps y))), (0, .inr (.inr (some 100))), (1, .inr (.inr (some m))), (2, .inl (nI y))], [.inl (mu_i Q9 (mu_p (U.2.2.2.1 100 13)) (0 : Int32).toNatClampNeg), .inr (.inr (some 100))], Q9)) (C := [mu_isr Q9 (U.2.2.2.1 100 13) 100, vp_in (0 : Int32) (mu_n Q9 (mu_p (U.2.2.2.1 100 13)))]) rfl (show (mu_isr Q9 (U.2.2.2.1 100 13) 100) ∧ (vp_in (0 : Int32) (mu_n Q9 (mu_p (U.2.2.2.1 100 13)))) from ⟨((u9.iA d9 rfl rfl (show V9.2.2.2.1 100 13 = (U.2.2.2.1 100 13) from ((z9.r 100 13 rfl).trans (zzb.r 100 13 rfl))))).r, (u9.vA (i := 0) d9 rfl rfl (show V9.2.2.2.1 100 13 = (U.2.2.2.1 100 13) from ((z9.r 100 13 rfl).trans (zzb.r 100 13 rfl))) (show (V9.2.2.1 100 13).1 = (U.2.2.1 100 13).1 from ((z9.n 100 13 rfl).trans (zzb.n 100 13 rfl))) (by omega) (by omega))⟩) ?_
      rw [(show (mu_i Q9 (mu_p (U.2.2.2.1 100 13)) (0 : Int32).toNatClampNeg) = (nI (it 0)) from ((congrArg (mu_i Q9 (mu_p (U.2.2.2.1 100 13))) (show (0 : Int32).toNatClampNeg = 0 from by decide)).trans (u9.gA d9 rfl rfl (show V9.2.2.2.1 100 13 = (U.2.2.2.1 100 13) from ((z9.r 100 13 rfl).trans (zzb.r 100 13 rfl))))).trans ((congrArg (fun z => z.2 0) (show V9.2.2.1 100 13 = (V9.2.2.1 100 13) from rfl)).trans (hri.1.2.2.2.2 0 (by omega)).1))]
      have hJ0 := (hri.1.2.2.2.2 0 (by omega)).2
      refine mw_go mu_g208 (k := 1) (f1 := (189, [(5, .inl (nI (ps y))), (0, .inr (.inr (some 100))), (1, .inr (.inr (some m))), (2, .inl (nI y))], [.inl (nI (ps y)), .inl (nI (it 0)), .inr (.inr (some 100))], Q9)) (C := []) rfl trivial ?_
      refine mw_cV (fun _ => rfl) (show mu_is Q9 (some 100) 5 from (u9.1.1.is rfl)) (mc_copy2 (d := (d + 4)) (C := C) (s := it 0) (t := ps y) u9 d9 hri.1.1 hJ0 (by omega)) (fun Q12 q12 => ?_)
      obtain ⟨u12, r12, z12, ba, bb⟩ := q12
      have ht12 : ur m C H Q12 := ht9.trans r12
      obtain ⟨V12, d12⟩ : ∃ V, ud m Q12 = V := ⟨_, rfl⟩
      rw [d12] at z12 ba bb
      have qf12 : uq F208 U V12 := qf9.tr z12 rfl
      refine mw_go mu_g208 (k := 1) (f1 := (195, [(2, .inl ((nI y) + 1)), (5, .inl (nI (ps y))), (0, .inr (.inr (some 100))), (1, .inr (.inr (some m)))], [], Q12)) (C := []) rfl trivial ?_
      rw [(show ((nI y) + 1) = (nI (y + 1)) from (nI_add y 1))]
      refine mw_go mu_g208 (k := 1) (f1 := (29, [(2, .inl (nI (y + 1))), (5, .inl (nI (ps y))), (0, .inr (.inr (some 100))), (1, .inr (.inr (some m)))], [], Q12)) (C := []) rfl trivial ?_
      exact mw_sub (by simp) (ihb (y + 1, Q12) ⟨u12, ht12, (show uq F208b U (ud m Q12) from by rw [d12]; exact (((((zzb.I rfl).I rfl).A rfl).tr z9 rfl).tr z12 rfl)), (show (y + 1) ≤ T from (by omega)), (show ∀ s, (s < S0 ∨ ∃ yq, (yq < (y + 1) ∧ yq + 1 < T) ∧ s = ps yq) → ∀ j, j < l → cvl (ud m Q12) W s j = fv s j from by rw [d12]; exact (fun s hs j hj => by by_cases es : s = ps y; exact (by rw [es, ba j hj, hri.2.2.1 0 j (by omega) hj]; exact (hfv y hyl j hj).symm); exact (bb s j es (by omega)).1.trans (hb9 s (by rcases hs with w | ⟨y2, w1, w2⟩; exact Nat.lt_of_lt_of_le w hS0; exact (by rw [w2]; exact (hps y2 w1.2).2)) (by rcases hs with w | ⟨y2, w1, w2⟩; exact Or.inl w; exact Or.inr ⟨y2, Nat.lt_of_le_of_ne (Nat.le_of_lt_succ w1.1) (fun w3 => es (by rw [w2, w3])), w2⟩) j hj))), (show ∀ s k, s < S0 → k < W → ckp (ud m Q12) U W s k from by rw [d12]; exact (fun s k hs hk => (bb s k (by have := hpS y hyl; omega) hk).trans (hr9 s k hs hk))), (show (y + 1) = T → ∃ V0 it, ri V0 (ud m Q12) Y O cp A W l (pa (T - 1)) (pN (T - 1)) (lv (T - 1)) it from by rw [d12]; exact (fun w => absurd w (by omega)))⟩ (by show T - (y + 1) < T - y; omega))
  · -- 198: not (nI y) < (nI T)
    have nh2 : ¬ y < T := fun z => h2 (show nI y < nI T from (nI_ltI (by omega) (by omega)).mpr z)
    refine mw_go mu_g208 (k := 3) (f1 := (203, [(2, .inl (nI y)), (0, .inr (.inr (some 100))), (1, .inr (.inr (some m)))], [], (mu_si Hsb 100 21 (0 : Int32)))) (C := [mu_is Hsb (some 100) 5, (0 : Int32) = 0 ∨ (0 : Int32) = 1]) rfl (show (mu_is Hsb (some 100) 5) ∧ ((0 : Int32) = 0 ∨ (0 : Int32) = 1) from ⟨(ub.1.1.is rfl), Or.inl rfl⟩) ?_
    obtain ⟨u13, r13, d13⟩ : um m (mu_si Hsb 100 21 (0 : Int32)) ∧ ur m C Hsb (mu_si Hsb 100 21 (0 : Int32)) ∧ ud m (mu_si Hsb 100 21 (0 : Int32)) = (upI Vb 100 21 (0 : Int32)) := ub.sI (C := C) db rfl
    generalize (mu_si Hsb 100 21 (0 : Int32)) = Q13 at u13 r13 d13 ⊢
    have qf13 : uq F208 U (upI Vb 100 21 (0 : Int32)) := qfb.I rfl
    have ht13 : ur m C H Q13 := htb.trans r13
    obtain ⟨V0, it, hrF⟩ := hE (by omega)
    exact mw_of (fun _ => mu_ret rfl trivial ⟨Q13, rfl, u13, ht13, (by rw [d13]; exact qf13), (by rw [d13]; exact ⟨rfl, V0, it, hrF⟩), (by rw [d13]; exact fun s hs => hB s (by rcases hs with w | ⟨y2, w1, w2⟩; exact Or.inl w; exact Or.inr ⟨y2, ⟨by omega, by omega⟩, w2⟩)), (by rw [d13]; exact fun s k hs hk => hR s k hs hk)⟩)
end RunAll
