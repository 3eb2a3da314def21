/-! RELATION: the row of a STATE by its branches: begun, gathered, ended -/
section Gather
variable {H : mu_H} {U V : Ud} {m d P n k y x nb T : Nat} {C : Nat → Nat} {bo : Nat → Nat → Nat} {f ls : Nat → Nat} {L : Nat → Int64} {R : Nat → Prop} {Q : Nat → Prop}
theorem lay_or (hx : x < 16384) (t : Nat) (ht : t < 16384) : bts (fun q => if q = x / 64 then L (x / 64) ||| ((1 : Int64) <<< ((nI x).toInt64 &&& 63)) else L q) t = true ↔ (bts L t = true ∨ x = t) := by
  show btz (if t / 64 = x / 64 then L (x / 64) ||| ((1 : Int64) <<< ((nI x).toInt64 &&& 63)) else L (t / 64)) (t % 64) = true ↔ _
  unfold bts
  by_cases e : t / 64 = x / 64
  · rw [if_pos e, e, btz_one1 (by omega) (Nat.mod_lt _ (by decide))]
    constructor
    · rintro (h | h)
      · exact Or.inl h
      · exact Or.inr (by omega)
    · rintro (h | h)
      · exact Or.inl h
      · exact Or.inr (by omega)
  · rw [if_neg e]
    constructor
    · exact Or.inl
    · rintro (h | h)
      · exact h
      · exact absurd (by rw [h]) e
/-- PathProver$Relation.beginRow()V -/
abbrev mu_m402 : ev_M := (1, none, [], ev_b402)
theorem mu_g402 : mu_good mu_m402 := mu_goodk ev_k402
theorem rl_brow (h : um m H) (e : ud m H = U) (hS : spx m U P f) : mu_TV (mu_D (d + 3)) 402 [.inr (.inr (some 129))] H (fun H1 => um m H1 ∧ ur m C H H1 ∧ ud m H1 = (upM (upI U 129 11 (0 : Int32)) 126 0 (fun _ => (0 : Int64)) (((pd f 0 P + 63) / 64) - 0))) := by
  obtain ⟨⟨s4, s10, s11, s12⟩, hk5, ⟨g8, g8b, g18, g18b⟩, ⟨gP, gpd, gsm⟩, hsp, hmo⟩ := (show spx m U P f from hS)
  refine mu_meth (M := mu_m402) rfl rfl ?_
  refine mw_ht (mu_fn_of (show [0].Nodup by decide)) ?_
  refine mw_go mu_g402 (k := 3) (f1 := (5, [(0, .inr (.inr (some 129)))], [], (mu_si H 129 11 (0 : Int32)))) (C := [mu_is H (some 129) 9]) rfl (show mu_is H (some 129) 9 from (h.1.1.is rfl)) ?_
  obtain ⟨u1, r1, d1⟩ : um m (mu_si H 129 11 (0 : Int32)) ∧ ur m C H (mu_si H 129 11 (0 : Int32)) ∧ ud m (mu_si H 129 11 (0 : Int32)) = (upI U 129 11 (0 : Int32)) := h.sI (C := C) e rfl
  generalize (mu_si H 129 11 (0 : Int32)) = Q1 at u1 r1 d1 ⊢
  have ht1 : ur m C H Q1 := (ur.refl m C H).trans r1
  refine mw_go mu_g402 (k := 2) (f1 := (9, [(0, .inr (.inr (some 129)))], [.inr (.inr (mu_r Q1 129 0))], Q1)) (C := [mu_is Q1 (some 129) 9]) rfl (show mu_is Q1 (some 129) 9 from (u1.1.1.is rfl)) ?_
  rw [(u1.1.1.r (p := 129) (j := 0) (q := 99) rfl)]
  refine mw_go mu_g402 (k := 1) (f1 := (12, [(0, .inr (.inr (some 129)))], [.inr (.inr (mu_r Q1 99 16))], Q1)) (C := [mu_is Q1 (some 99) 13]) rfl (show mu_is Q1 (some 99) 13 from (u1.1.1.is rfl)) ?_
  rw [(u1.1.1.r (p := 99) (j := 16) (q := 126) rfl)]
  refine mw_go mu_g402 (k := 3) (f1 := (17, [(0, .inr (.inr (some 129)))], [.inr (.inr (mu_r Q1 129 0)), .inl (0 : Int32), .inr (.inr (some 126))], Q1)) (C := [mu_is Q1 (some 129) 9]) rfl (show mu_is Q1 (some 129) 9 from (u1.1.1.is rfl)) ?_
  rw [(u1.1.1.r (p := 129) (j := 0) (q := 99) rfl)]
  refine mw_go mu_g402 (k := 1) (f1 := (20, [(0, .inr (.inr (some 129)))], [.inl (mu_i Q1 99 12), .inl (0 : Int32), .inr (.inr (some 126))], Q1)) (C := [mu_is Q1 (some 99) 13]) rfl (show mu_is Q1 (some 99) 13 from (u1.1.1.is rfl)) ?_
  rw [(show mu_i Q1 99 12 = (nI ((pd f 0 P + 63) / 64)) from (ud_i (U := (upI U 129 11 (0 : Int32))) (m := m) (P := 99) (j := 12) d1 rfl).trans s12)]
  refine mw_go mu_g402 (k := 1) (f1 := (21, [(0, .inr (.inr (some 129)))], [.inr (.inl (0 : Int64)), .inl (nI ((pd f 0 P + 63) / 64)), .inl (0 : Int32), .inr (.inr (some 126))], Q1)) (C := []) rfl trivial ?_
  refine mw_cV (fun _ => rfl) trivial ((ar_fillL_ok (d := d) (v := (0 : Int64)) (a := 0) (b := (pd f 0 P + 63) / 64) ((u1.1.1.a (p := 126) (x := (102, 256)) rfl).1) (by omega) (by rw [show mu_n Q1 (mu_p (some 126)) = 256 from (u1.1.1.a (p := 126) (x := (102, 256)) rfl).2]; omega) (by rw [show mu_n Q1 (mu_p (some 126)) = 256 from (u1.1.1.a (p := 126) (x := (102, 256)) rfl).2]; decide)).imp (fun Hx qx => show um m Hx ∧ ur m C Q1 Hx ∧ ud m Hx = (upM (upI U 129 11 (0 : Int32)) 126 0 (fun _ => (0 : Int64)) (((pd f 0 P + 63) / 64) - 0)) by rw [qx]; exact u1.fL (C := C) d1 rfl)) (fun Q2 q2 => ?_)
  obtain ⟨u2, r2, d2⟩ := q2
  have ht2 : ur m C H Q2 := ht1.trans r2
  exact mw_of (fun _ => mu_ret rfl trivial ⟨Q2, rfl, u2, ht2, d2⟩)
/-- PathProver$Relation.gather()V -/
abbrev mu_m404 : ev_M := (2, none, [], ev_b404)
theorem mu_g404 : mu_good mu_m404 := mu_goodk ev_k404
theorem rl_gath0 (h : um m H) (e : ud m H = U) (hB : BRT U nb bo) (h1 : nb = 1) (hn : U.2.1 129 11 = nI n) (hnb : n < 2147483648) : mu_TV (mu_D (d + 1)) 404 [.inr (.inr (some 129))] H (fun H1 => H1 = H) := by
  have hnb1 := hB.1
  have hnb2 := hB.2.1
  refine mu_meth (M := mu_m404) rfl rfl ?_
  refine mw_ht (mu_fn_of (show [0].Nodup by decide)) ?_
  refine mw_go mu_g404 (k := 5) (f1 := (7, [(1, .inl (0 : Int32)), (0, .inr (.inr (some 129)))], [.inl (mu_i H 129 11), .inl (0 : Int32)], H)) (C := [mu_is H (some 129) 9]) rfl (show mu_is H (some 129) 9 from (h.1.1.is rfl)) ?_
  rw [(show mu_i H 129 11 = (nI n) from (ud_i (U := U) (m := m) (P := 129) (j := 11) e rfl).trans hn)]
  refine mw_if (P := (0 : Int32) < (nI n)) (a := 10) (b := 55) (fun _ => rfl) trivial (fun h1 => ?_) (fun h1 => ?_)
  · -- 10: (0 : Int32) < (nI n)
    have nh1 : 0 < n := (nI_ltI (by omega) (by omega)).mp (show nI 0 < nI n from h1)
    refine mw_go mu_g404 (k := 2) (f1 := (14, [(1, .inl (0 : Int32)), (0, .inr (.inr (some 129)))], [.inr (.inr (mu_r H 129 23))], H)) (C := [mu_is H (some 129) 9]) rfl (show mu_is H (some 129) 9 from (h.1.1.is rfl)) ?_
    rw [(h.1.1.r (p := 129) (j := 23) (q := 167) rfl)]
    refine mw_go mu_g404 (k := 1) (f1 := (17, [(1, .inl (0 : Int32)), (0, .inr (.inr (some 129)))], [.inl (mu_i H 167 2)], H)) (C := [mu_is H (some 167) 10]) rfl (show mu_is H (some 167) 10 from (h.1.1.is rfl)) ?_
    rw [(show mu_i H 167 2 = (nI nb) from (h.size e (j := 27) (by decide) rfl).trans (congrArg nI ((congrArg Prod.fst (show U.1 27 = (U.1 27) from rfl)).trans (show (U.1 27).1 = nb from hB.1))))]
    refine mw_go mu_g404 (k := 1) (f1 := (18, [(1, .inl (0 : Int32)), (0, .inr (.inr (some 129)))], [.inl (1 : Int32), .inl (nI nb)], H)) (C := []) rfl trivial ?_
    refine mw_if (P := (1 : Int32) < (nI nb)) (a := 21) (b := 55) (fun _ => rfl) trivial (fun h2 => absurd h2 (fun y => absurd ((nI_ltI (a := 1) (by decide) (by omega)).mp y) (by omega))) (fun h2 => ?_)
    exact mw_of (fun _ => mu_ret rfl trivial ⟨H, rfl, rfl⟩)
  · -- 55: not (0 : Int32) < (nI n)
    have nh1 : ¬ 0 < n := fun z => h1 (show nI 0 < nI n from (nI_ltI (by omega) (by omega)).mpr z)
    exact mw_of (fun _ => mu_ret rfl trivial ⟨H, rfl, rfl⟩)
def F404 : Uf := ⟨[], [], [], [], [126], false⟩
def F404a : Uf := ⟨[], [], [], [], [126], false⟩
theorem rl_gath1 (h : um m H) (e : ud m H = U) (hB : BRT U nb bo) (h1 : 1 < nb) (hn : U.2.1 129 11 = nI n) (hL : ∀ i, i < n → (U.2.2.1 129 10).2 i = nI (ls i)) (hN : n ≤ (U.2.2.1 129 10).1) (hN2 : (U.2.2.1 129 10).1 < 2147483648) (hb : ∀ i, i < n → ls i < 16384) (hR : ∀ t, t < 16384 → (bts (U.2.2.2.2.1 126) t = true ↔ R t)) : mu_TV (mu_D (d + 1)) 404 [.inr (.inr (some 129))] H (fun H1 => um m H1 ∧ ur m C H H1 ∧ uq F404 U (ud m H1) ∧ ∀ t, t < 16384 → (bts ((ud m H1).2.2.2.2.1 126) t = true ↔ (R t ∨ lmz ls n t = true))) := by
  have hnb1 := hB.1
  have hnb2 := hB.2.1
  refine mu_meth (M := mu_m404) rfl rfl ?_
  refine mw_ht (mu_fn_of (show [0].Nodup by decide)) ?_
  refine mw_go mu_g404 (k := 2) (f1 := (2, [(1, .inl (0 : Int32)), (0, .inr (.inr (some 129)))], [], H)) (C := []) rfl trivial ?_
  show mu_W _ _ (2, [(1, .inl (nI 0)), (0, .inr (.inr (some 129)))], [], H) _
  refine mw_sub (L' := [(1, .inl (nI 0)), (0, .inr (.inr (some 129)))]) (by simp) ?_
  refine mw_down (α := Nat × mu_H) (fun zs => (2, [(1, .inl (nI zs.1)), (0, .inr (.inr (some 129)))], [], zs.2)) (fun zs => n - zs.1) (fun zs => um m zs.2 ∧ ur m C H zs.2 ∧ (uq F404a U (ud m zs.2)) ∧ (zs.1 ≤ n) ∧ (∀ t, t < 16384 → (bts ((ud m zs.2).2.2.2.2.1 126) t = true ↔ (R t ∨ lmz ls zs.1 t = true)))) (fun zs hza iha => ?_) (0, H) ⟨h, (ur.refl m C H), (show uq F404a U (ud m H) from by rw [e]; exact uq.refl _ _), (show 0 ≤ n from (by omega)), (show ∀ t, t < 16384 → (bts ((ud m H).2.2.2.2.1 126) t = true ↔ (R t ∨ lmz ls 0 t = true)) from by rw [e]; exact (fun t ht => by rw [hR t ht]; exact ⟨Or.inl, fun q => q.elim id (fun y => by cases y)⟩))⟩
  obtain ⟨y, Hsa⟩ := zs
  obtain ⟨ua, hta, da, hw, hG⟩ := hza
  have ua : um m Hsa := ua
  have hta : ur m C H Hsa := hta
  have zza : uq F404a U (ud m Hsa) := da
  have hw : y ≤ n := hw
  have hG : ∀ t, t < 16384 → (bts ((ud m Hsa).2.2.2.2.1 126) t = true ↔ (R t ∨ lmz ls y t = true)) := hG
  obtain ⟨Va, da⟩ : ∃ V, ud m Hsa = V := ⟨_, rfl⟩
  rw [da] at zza hG
  have qfa : uq F404 U Va := (uq.refl F404 U).tr zza rfl
  show mu_W _ _ (2, [(1, .inl (nI y)), (0, .inr (.inr (some 129)))], [], Hsa) _
  refine mw_go mu_g404 (k := 3) (f1 := (7, [(1, .inl (nI y)), (0, .inr (.inr (some 129)))], [.inl (mu_i Hsa 129 11), .inl (nI y)], Hsa)) (C := [mu_is Hsa (some 129) 9]) rfl (show mu_is Hsa (some 129) 9 from (ua.1.1.is rfl)) ?_
  rw [(show mu_i Hsa 129 11 = (nI n) from (ud_i (U := Va) (m := m) (P := 129) (j := 11) da rfl).trans ((zza.i 129 11 rfl).trans hn))]
  refine mw_if (P := (nI y) < (nI n)) (a := 10) (b := 55) (fun _ => rfl) trivial (fun h1 => ?_) (fun h1 => ?_)
  · -- 10: (nI y) < (nI n)
    have nh1 : y < n := (nI_ltI (by omega) (by omega)).mp (show nI y < nI n from h1)
    refine mw_go mu_g404 (k := 2) (f1 := (14, [(1, .inl (nI y)), (0, .inr (.inr (some 129)))], [.inr (.inr (mu_r Hsa 129 23))], Hsa)) (C := [mu_is Hsa (some 129) 9]) rfl (show mu_is Hsa (some 129) 9 from (ua.1.1.is rfl)) ?_
    rw [(ua.1.1.r (p := 129) (j := 23) (q := 167) rfl)]
    refine mw_go mu_g404 (k := 1) (f1 := (17, [(1, .inl (nI y)), (0, .inr (.inr (some 129)))], [.inl (mu_i Hsa 167 2)], Hsa)) (C := [mu_is Hsa (some 167) 10]) rfl (show mu_is Hsa (some 167) 10 from (ua.1.1.is rfl)) ?_
    rw [(show mu_i Hsa 167 2 = (nI nb) from (ua.size da (j := 27) (by decide) rfl).trans (congrArg nI ((congrArg Prod.fst (show Va.1 27 = (U.1 27) from (zza.t 27 rfl))).trans (show (U.1 27).1 = nb from hB.1))))]
    refine mw_go mu_g404 (k := 1) (f1 := (18, [(1, .inl (nI y)), (0, .inr (.inr (some 129)))], [.inl (1 : Int32), .inl (nI nb)], Hsa)) (C := []) rfl trivial ?_
    refine mw_if (P := (1 : Int32) < (nI nb)) (a := 21) (b := 55) (fun _ => rfl) trivial (fun h2 => ?_) (fun h2 => absurd ((nI_ltI (a := 1) (by decide) (by omega)).mpr (by omega)) h2)
    refine mw_go mu_g404 (k := 2) (f1 := (25, [(1, .inl (nI y)), (0, .inr (.inr (some 129)))], [.inr (.inr (mu_r Hsa 129 0))], Hsa)) (C := [mu_is Hsa (some 129) 9]) rfl (show mu_is Hsa (some 129) 9 from (ua.1.1.is rfl)) ?_
    rw [(ua.1.1.r (p := 129) (j := 0) (q := 99) rfl)]
    refine mw_go mu_g404 (k := 1) (f1 := (28, [(1, .inl (nI y)), (0, .inr (.inr (some 129)))], [.inr (.inr (mu_r Hsa 99 16))], Hsa)) (C := [mu_is Hsa (some 99) 13]) rfl (show mu_is Hsa (some 99) 13 from (ua.1.1.is rfl)) ?_
    rw [(ua.1.1.r (p := 99) (j := 16) (q := 126) rfl)]
    refine mw_go mu_g404 (k := 2) (f1 := (32, [(1, .inl (nI y)), (0, .inr (.inr (some 129)))], [.inr (.inr (mu_r Hsa 129 10)), .inr (.inr (some 126))], Hsa)) (C := [mu_is Hsa (some 129) 9]) rfl (show mu_is Hsa (some 129) 9 from (ua.1.1.is rfl)) ?_
    rw [(show mu_r Hsa 129 10 = (U.2.2.2.1 129 10) from (ud_q (U := Va) (m := m) (P := 129) (j := 10) da rfl).trans (zza.r 129 10 rfl))]
    refine mw_go mu_g404 (k := 2) (f1 := (34, [(1, .inl (nI y)), (0, .inr (.inr (some 129)))], [.inl (mu_i Hsa (mu_p (U.2.2.2.1 129 10)) (nI y).toNatClampNeg), .inr (.inr (some 126))], Hsa)) (C := [mu_isr Hsa (U.2.2.2.1 129 10) 100, vp_in (nI y) (mu_n Hsa (mu_p (U.2.2.2.1 129 10)))]) rfl (show (mu_isr Hsa (U.2.2.2.1 129 10) 100) ∧ (vp_in (nI y) (mu_n Hsa (mu_p (U.2.2.2.1 129 10)))) from ⟨((ua.iA da rfl rfl (show Va.2.2.2.1 129 10 = (U.2.2.2.1 129 10) from (zza.r 129 10 rfl)))).r, (ua.vA (i := y) da rfl rfl (show Va.2.2.2.1 129 10 = (U.2.2.2.1 129 10) from (zza.r 129 10 rfl)) (show (Va.2.2.1 129 10).1 = (U.2.2.1 129 10).1 from (zza.n 129 10 rfl)) (by omega) (by omega))⟩) ?_
    rw [(show (mu_i Hsa (mu_p (U.2.2.2.1 129 10)) (nI y).toNatClampNeg) = (nI (ls y)) from ((congrArg (mu_i Hsa (mu_p (U.2.2.2.1 129 10))) (show (nI y).toNatClampNeg = y from nI_clamp (by omega))).trans (ua.gA da rfl rfl (show Va.2.2.2.1 129 10 = (U.2.2.2.1 129 10) from (zza.r 129 10 rfl)))).trans ((congrArg (fun z => z.2 y) (show Va.2.2.1 129 10 = (U.2.2.1 129 10) from (zza.a 129 10 rfl))).trans (hL y (by omega))))]
    have hx3 := hb y (by omega)
    refine mw_go mu_g404 (k := 2) (f1 := (37, [(1, .inl (nI y)), (0, .inr (.inr (some 129)))], [.inl ((nI (ls y)) >>> ((6 : Int32) &&& 31)), .inr (.inr (some 126))], Hsa)) (C := []) rfl trivial ?_
    rw [(show ((nI (ls y)) >>> ((6 : Int32) &&& 31)) = (nI ((ls y) / 64)) from (nI_shr6 (a := ls y) (by omega)))]
    refine mw_go mu_g404 (k := 2) (f1 := (39, [(1, .inl (nI y)), (0, .inr (.inr (some 129)))], [.inr (.inl (mu_l Hsa 126 (nI ((ls y) / 64)).toNatClampNeg)), .inl (nI ((ls y) / 64)), .inr (.inr (some 126))], Hsa)) (C := [mu_isr Hsa (some 126) 102, vp_in (nI ((ls y) / 64)) (mu_n Hsa 126)]) rfl (show (mu_isr Hsa (some 126) 102) ∧ (vp_in (nI ((ls y) / 64)) (mu_n Hsa 126)) from ⟨((ua.1.1.a (p := 126) (x := (102, 256)) rfl).1).r, (by rw [show mu_n Hsa 126 = 256 from (ua.1.1.a (p := 126) (x := (102, 256)) rfl).2]; exact vp_in_nI (n := (ls y) / 64) (by omega) (by decide))⟩) ?_
    rw [(show (mu_l Hsa 126 (nI ((ls y) / 64)).toNatClampNeg) = (Va.2.2.2.2.1 126) ((ls y) / 64) from (congrArg (mu_l Hsa 126) (show (nI ((ls y) / 64)).toNatClampNeg = (ls y) / 64 from nI_clamp (by omega))).trans ((ud_l (m := m) (p := 126) (i := ((ls y) / 64)) da rfl).trans (congrFun (show Va.2.2.2.2.1 126 = (Va.2.2.2.2.1 126) from rfl) ((ls y) / 64))))]
    refine mw_go mu_g404 (k := 3) (f1 := (44, [(1, .inl (nI y)), (0, .inr (.inr (some 129)))], [.inr (.inr (mu_r Hsa 129 10)), .inr (.inl (1 : Int64)), .inr (.inl ((Va.2.2.2.2.1 126) ((ls y) / 64))), .inl (nI ((ls y) / 64)), .inr (.inr (some 126))], Hsa)) (C := [mu_is Hsa (some 129) 9]) rfl (show mu_is Hsa (some 129) 9 from (ua.1.1.is rfl)) ?_
    rw [(show mu_r Hsa 129 10 = (U.2.2.2.1 129 10) from (ud_q (U := Va) (m := m) (P := 129) (j := 10) da rfl).trans (zza.r 129 10 rfl))]
    refine mw_go mu_g404 (k := 2) (f1 := (46, [(1, .inl (nI y)), (0, .inr (.inr (some 129)))], [.inl (mu_i Hsa (mu_p (U.2.2.2.1 129 10)) (nI y).toNatClampNeg), .inr (.inl (1 : Int64)), .inr (.inl ((Va.2.2.2.2.1 126) ((ls y) / 64))), .inl (nI ((ls y) / 64)), .inr (.inr (some 126))], Hsa)) (C := [mu_isr Hsa (U.2.2.2.1 129 10) 100, vp_in (nI y) (mu_n Hsa (mu_p (U.2.2.2.1 129 10)))]) rfl (show (mu_isr Hsa (U.2.2.2.1 129 10) 100) ∧ (vp_in (nI y) (mu_n Hsa (mu_p (U.2.2.2.1 129 10)))) from ⟨((ua.iA da rfl rfl (show Va.2.2.2.1 129 10 = (U.2.2.2.1 129 10) from (zza.r 129 10 rfl)))).r, (ua.vA (i := y) da rfl rfl (show Va.2.2.2.1 129 10 = (U.2.2.2.1 129 10) from (zza.r 129 10 rfl)) (show (Va.2.2.1 129 10).1 = (U.2.2.1 129 10).1 from (zza.n 129 10 rfl)) (by omega) (by omega))⟩) ?_
    rw [(show (mu_i Hsa (mu_p (U.2.2.2.1 129 10)) (nI y).toNatClampNeg) = (nI (ls y)) from ((congrArg (mu_i Hsa (mu_p (U.2.2.2.1 129 10))) (show (nI y).toNatClampNeg = y from nI_clamp (by omega))).trans (ua.gA da rfl rfl (show Va.2.2.2.1 129 10 = (U.2.2.2.1 129 10) from (zza.r 129 10 rfl)))).trans ((congrArg (fun z => z.2 y) (show Va.2.2.1 129 10 = (U.2.2.1 129 10) from (zza.a 129 10 rfl))).trans (hL y (by omega))))]
    have hx4 := hb y (by omega)
    refine mw_go mu_g404 (k := 3) (f1 := (49, [(1, .inl (nI y)), (0, .inr (.inr (some 129)))], [], (mu_sl Hsa 126 (nI ((ls y) / 64)).toNatClampNeg (((Va.2.2.2.2.1 126) ((ls y) / 64)) ||| ((1 : Int64) <<< ((nI (ls y)).toInt64 &&& 63)))))) (C := [mu_is Hsa (some 126) 102, vp_in (nI ((ls y) / 64)) (mu_n Hsa 126)]) rfl (show (mu_is Hsa (some 126) 102) ∧ (vp_in (nI ((ls y) / 64)) (mu_n Hsa 126)) from ⟨((ua.1.1.a (p := 126) (x := (102, 256)) rfl).1), (by rw [show mu_n Hsa 126 = 256 from (ua.1.1.a (p := 126) (x := (102, 256)) rfl).2]; exact vp_in_nI (n := (ls y) / 64) (by omega) (by decide))⟩) ?_
    rw [(show (nI ((ls y) / 64)).toNatClampNeg = (ls y) / 64 from nI_clamp (by omega))]
    obtain ⟨u5, r5, d5⟩ : um m (mu_sl Hsa 126 ((ls y) / 64) (((Va.2.2.2.2.1 126) ((ls y) / 64)) ||| ((1 : Int64) <<< ((nI (ls y)).toInt64 &&& 63)))) ∧ ur m C Hsa (mu_sl Hsa 126 ((ls y) / 64) (((Va.2.2.2.2.1 126) ((ls y) / 64)) ||| ((1 : Int64) <<< ((nI (ls y)).toInt64 &&& 63)))) ∧ ud m (mu_sl Hsa 126 ((ls y) / 64) (((Va.2.2.2.2.1 126) ((ls y) / 64)) ||| ((1 : Int64) <<< ((nI (ls y)).toInt64 &&& 63)))) = (upL Va 126 ((ls y) / 64) (((Va.2.2.2.2.1 126) ((ls y) / 64)) ||| ((1 : Int64) <<< ((nI (ls y)).toInt64 &&& 63)))) := ua.sL (C := C) da rfl
    generalize (mu_sl Hsa 126 ((ls y) / 64) (((Va.2.2.2.2.1 126) ((ls y) / 64)) ||| ((1 : Int64) <<< ((nI (ls y)).toInt64 &&& 63)))) = Q5 at u5 r5 d5 ⊢
    have qf5 : uq F404 U (upL Va 126 ((ls y) / 64) (((Va.2.2.2.2.1 126) ((ls y) / 64)) ||| ((1 : Int64) <<< ((nI (ls y)).toInt64 &&& 63)))) := qfa.L rfl
    have ht5 : ur m C H Q5 := hta.trans r5
    refine mw_go mu_g404 (k := 1) (f1 := (52, [(1, .inl ((nI y) + 1)), (0, .inr (.inr (some 129)))], [], Q5)) (C := []) rfl trivial ?_
    rw [(show ((nI y) + 1) = (nI (y + 1)) from (nI_add y 1))]
    refine mw_go mu_g404 (k := 1) (f1 := (2, [(1, .inl (nI (y + 1))), (0, .inr (.inr (some 129)))], [], Q5)) (C := []) rfl trivial ?_
    exact mw_sub (by simp) (iha (y + 1, Q5) ⟨u5, ht5, (show uq F404a U (ud m Q5) from by rw [d5]; exact (zza.L rfl)), (show (y + 1) ≤ n from (by omega)), (show ∀ t, t < 16384 → (bts ((ud m Q5).2.2.2.2.1 126) t = true ↔ (R t ∨ lmz ls (y + 1) t = true)) from by rw [d5]; exact (fun t ht => by rw [upL_at, lay_or (hb y (by omega)) t ht, hG t ht]; show _ ↔ (R t ∨ (lmz ls y t || decide (ls y = t)) = true); rw [Bool.or_eq_true, decide_eq_true_iff, or_assoc]))⟩ (by show n - (y + 1) < n - y; omega))
  · -- 55: not (nI y) < (nI n)
    have nh1 : ¬ y < n := fun z => h1 (show nI y < nI n from (nI_ltI (by omega) (by omega)).mpr z)
    have hye : y = n := by omega
    rw [hye] at hG
    exact mw_of (fun _ => mu_ret rfl trivial ⟨Hsa, rfl, ua, hta, (by rw [da]; exact qfa), (by rw [da]; exact hG)⟩)
/-- PathProver$Relation.endRow()V -/
abbrev mu_m405 : ev_M := (1, none, [], ev_b405)
theorem mu_g405 : mu_good mu_m405 := mu_goodk ev_k405
theorem rl_erow0 (h : um m H) (e : ud m H = U) (hB : BRT U nb bo) (h1 : nb = 1) : mu_TV (mu_D (d + 4)) 405 [.inr (.inr (some 129))] H (fun H1 => H1 = H) := by
  have hnb1 := hB.1
  have hnb2 := hB.2.1
  refine mu_meth (M := mu_m405) rfl rfl ?_
  refine mw_ht (mu_fn_of (show [0].Nodup by decide)) ?_
  refine mw_go mu_g405 (k := 2) (f1 := (4, [(0, .inr (.inr (some 129)))], [.inr (.inr (mu_r H 129 23))], H)) (C := [mu_is H (some 129) 9]) rfl (show mu_is H (some 129) 9 from (h.1.1.is rfl)) ?_
  rw [(h.1.1.r (p := 129) (j := 23) (q := 167) rfl)]
  refine mw_go mu_g405 (k := 1) (f1 := (7, [(0, .inr (.inr (some 129)))], [.inl (mu_i H 167 2)], H)) (C := [mu_is H (some 167) 10]) rfl (show mu_is H (some 167) 10 from (h.1.1.is rfl)) ?_
  rw [(show mu_i H 167 2 = (nI nb) from (h.size e (j := 27) (by decide) rfl).trans (congrArg nI ((congrArg Prod.fst (show U.1 27 = (U.1 27) from rfl)).trans (show (U.1 27).1 = nb from hB.1))))]
  refine mw_go mu_g405 (k := 1) (f1 := (8, [(0, .inr (.inr (some 129)))], [.inl (1 : Int32), .inl (nI nb)], H)) (C := []) rfl trivial ?_
  refine mw_if (P := (1 : Int32) < (nI nb)) (a := 11) (b := 38) (fun _ => rfl) trivial (fun h1 => absurd h1 (fun y => absurd ((nI_ltI (a := 1) (by decide) (by omega)).mp y) (by omega))) (fun h1 => ?_)
  exact mw_of (fun _ => mu_ret rfl trivial ⟨H, rfl, rfl⟩)
def F405 : Uf := ⟨[], [(129, 11)], [(129, 10)], [], [], false⟩
theorem rl_erow1 (h : um m H) (e : ud m H = U) (hS : spx m U P f) (hB : BRT U nb bo) (h1 : 1 < nb) (hBT : ∀ s, s / 64 < (pd f 0 P + 63) / 64 → bts (U.2.2.2.2.1 126) s = true → s < pd f 0 P) (hl10 : pd f 0 P + 4 ≤ (U.2.2.1 129 10).1) (hl10b : (U.2.2.1 129 10).1 < 2147483648) : mu_TV (mu_D (d + 4)) 405 [.inr (.inr (some 129))] H (fun H1 => um m H1 ∧ ur m C H H1 ∧ uq F405 U (ud m H1) ∧ ∃ n, (ud m H1).2.1 129 11 = nI n ∧ LSO (ud m H1) n (pd f 0 P) (fun x => bts (U.2.2.2.2.1 126) x = true)) := by
  obtain ⟨⟨s4, s10, s11, s12⟩, hk5, ⟨g8, g8b, g18, g18b⟩, ⟨gP, gpd, gsm⟩, hsp, hmo⟩ := (show spx m U P f from hS)
  have hnb1 := hB.1
  have hnb2 := hB.2.1
  refine mu_meth (M := mu_m405) rfl rfl ?_
  refine mw_ht (mu_fn_of (show [0].Nodup by decide)) ?_
  refine mw_go mu_g405 (k := 2) (f1 := (4, [(0, .inr (.inr (some 129)))], [.inr (.inr (mu_r H 129 23))], H)) (C := [mu_is H (some 129) 9]) rfl (show mu_is H (some 129) 9 from (h.1.1.is rfl)) ?_
  rw [(h.1.1.r (p := 129) (j := 23) (q := 167) rfl)]
  refine mw_go mu_g405 (k := 1) (f1 := (7, [(0, .inr (.inr (some 129)))], [.inl (mu_i H 167 2)], H)) (C := [mu_is H (some 167) 10]) rfl (show mu_is H (some 167) 10 from (h.1.1.is rfl)) ?_
  rw [(show mu_i H 167 2 = (nI nb) from (h.size e (j := 27) (by decide) rfl).trans (congrArg nI ((congrArg Prod.fst (show U.1 27 = (U.1 27) from rfl)).trans (show (U.1 27).1 = nb from hB.1))))]
  refine mw_go mu_g405 (k := 1) (f1 := (8, [(0, .inr (.inr (some 129)))], [.inl (1 : Int32), .inl (nI nb)], H)) (C := []) rfl trivial ?_
  refine mw_if (P := (1 : Int32) < (nI nb)) (a := 11) (b := 38) (fun _ => rfl) trivial (fun h1 => ?_) (fun h1 => absurd ((nI_ltI (a := 1) (by decide) (by omega)).mpr (by omega)) h1)
  refine mw_go mu_g405 (k := 4) (f1 := (17, [(0, .inr (.inr (some 129)))], [.inr (.inr (mu_r H 129 0)), .inr (.inr (some 129)), .inr (.inr (some 129))], H)) (C := [mu_is H (some 129) 9]) rfl (show mu_is H (some 129) 9 from (h.1.1.is rfl)) ?_
  rw [(h.1.1.r (p := 129) (j := 0) (q := 99) rfl)]
  refine mw_go mu_g405 (k := 1) (f1 := (20, [(0, .inr (.inr (some 129)))], [.inr (.inr (mu_r H 99 16)), .inr (.inr (some 129)), .inr (.inr (some 129))], H)) (C := [mu_is H (some 99) 13]) rfl (show mu_is H (some 99) 13 from (h.1.1.is rfl)) ?_
  rw [(h.1.1.r (p := 99) (j := 16) (q := 126) rfl)]
  refine mw_go mu_g405 (k := 2) (f1 := (24, [(0, .inr (.inr (some 129)))], [.inr (.inr (mu_r H 129 10)), .inr (.inr (some 126)), .inr (.inr (some 129)), .inr (.inr (some 129))], H)) (C := [mu_is H (some 129) 9]) rfl (show mu_is H (some 129) 9 from (h.1.1.is rfl)) ?_
  rw [(show mu_r H 129 10 = (U.2.2.2.1 129 10) from (ud_q (U := U) (m := m) (P := 129) (j := 10) e rfl))]
  refine mw_go mu_g405 (k := 3) (f1 := (29, [(0, .inr (.inr (some 129)))], [.inr (.inr (mu_r H 129 0)), .inl (0 : Int32), .inr (.inr (U.2.2.2.1 129 10)), .inr (.inr (some 126)), .inr (.inr (some 129)), .inr (.inr (some 129))], H)) (C := [mu_is H (some 129) 9]) rfl (show mu_is H (some 129) 9 from (h.1.1.is rfl)) ?_
  rw [(h.1.1.r (p := 129) (j := 0) (q := 99) rfl)]
  refine mw_go mu_g405 (k := 1) (f1 := (32, [(0, .inr (.inr (some 129)))], [.inl (mu_i H 99 12), .inl (0 : Int32), .inr (.inr (U.2.2.2.1 129 10)), .inr (.inr (some 126)), .inr (.inr (some 129)), .inr (.inr (some 129))], H)) (C := [mu_is H (some 99) 13]) rfl (show mu_is H (some 99) 13 from (h.1.1.is rfl)) ?_
  rw [(show mu_i H 99 12 = (nI ((pd f 0 P + 63) / 64)) from (ud_i (U := U) (m := m) (P := 99) (j := 12) e rfl).trans s12)]
  refine mw_cI (fun _ => rfl) (show mu_is H (some 129) 9 from (h.1.1.is rfl)) (rl_listc10 (d := d) (C := C) (fr := 0) (wd := (pd f 0 P + 63) / 64) (Z := pd f 0 P) h e hBT (by omega) (by omega) hl10b) (fun x2 Q2 q2 => ?_)
  obtain ⟨n, rfl, u2, r2, z2, ls, hls, hen, -⟩ := q2
  have ht2 : ur m C H Q2 := (ur.refl m C H).trans r2
  obtain ⟨V2, d2⟩ : ∃ V, ud m Q2 = V := ⟨_, rfl⟩
  rw [d2] at z2 hls
  have qf2 : uq F405 U V2 := (uq.refl F405 U).tr z2 rfl
  obtain ⟨hlr, hlT, hlm⟩ := enw_list (T := pd f 0 P) hen (fun s q => btc_T q)
  refine mw_go mu_g405 (k := 1) (f1 := (38, [(0, .inr (.inr (some 129)))], [], (mu_si Q2 129 11 (nI n)))) (C := [mu_is Q2 (some 129) 9]) rfl (show mu_is Q2 (some 129) 9 from (u2.1.1.is rfl)) ?_
  obtain ⟨u3, r3, d3⟩ : um m (mu_si Q2 129 11 (nI n)) ∧ ur m C Q2 (mu_si Q2 129 11 (nI n)) ∧ ud m (mu_si Q2 129 11 (nI n)) = (upI V2 129 11 (nI n)) := u2.sI (C := C) d2 rfl
  generalize (mu_si Q2 129 11 (nI n)) = Q3 at u3 r3 d3 ⊢
  have qf3 : uq F405 U (upI V2 129 11 (nI n)) := qf2.I rfl
  have ht3 : ur m C H Q3 := ht2.trans r3
  have hfin : LSO (upI V2 129 11 (nI n)) n (pd f 0 P) (fun x => bts (U.2.2.2.2.1 126) x = true) := ⟨ls, fun i hi => (by have y := hls i hi; rw [Nat.zero_add] at y; exact y), hlr, fun x => by rw [hlm x]; unfold btc; rw [Bool.and_eq_true, decide_eq_true_iff]; exact ⟨fun q => q.2, fun q => ⟨by have := q.1; omega, q⟩⟩⟩
  exact mw_of (fun _ => mu_ret rfl trivial ⟨Q3, rfl, u3, ht3, (by rw [d3]; exact qf3), n, (by rw [d3]; rfl), (by rw [d3]; exact hfin)⟩)
end Gather
