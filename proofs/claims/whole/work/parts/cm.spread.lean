/-! Space.spread -/
/-- a bit of the table -/
def tbz (U : Ud) (c : Nat) : Bool := btz (U.2.2.2.2.1 127 (c / 64)) (c % 64)
section Spread
variable {H : mu_H} {m d P w : Nat} {C : Nat → Nat} {U V : Ud} {f : Nat → Nat} {mk : Int32}
theorem btz_set {x : Int64} {t : Bool} {b q : Nat} (hb : b < 64) (hq : q < 64) : btz (x ||| ((if t = true then (1 : Int64) else 0) <<< ((nI b).toInt64 &&& 63))) q = (btz x q || (t && decide (q = b))) := by
  rw [btz_or, btz_shl (by omega) hq, Nat.mod_eq_of_lt hb]
  cases t
  · rw [if_neg (by decide), btz_0, Bool.and_false, Bool.false_and]
  · rw [if_pos rfl, btz_1, Bool.true_and]
    congr 1
    by_cases e : q = b
    · subst e; simp
    · by_cases h : b ≤ q
      · have : ¬ q - b = 0 := by omega
        simp [e, this]
      · simp [e, h]
theorem pj_b {s : Nat} (hS : spx m U P f) (hs : s < pd f 0 P) : pj mk f P P s < 16384 := by
  obtain ⟨-, hk5, -, ⟨gP, gpd, gsm⟩, -, -⟩ := hS
  have hf := fun k hk => Nat.le_trans (show 1 ≤ 2 by decide) (hk5 k hk).2.2.2
  have h1 := pj_lt (mk := mk) (n := P) hf (Nat.le_refl P) s (by rw [Nat.sub_self]; exact hs)
  have h2 := (wn_le (mk := mk) (n := P) hf (Nat.le_refl P)).2
  rw [Nat.sub_self] at h2
  omega
theorem bt_step {T : Nat → Bool} {w b q : Nat} {t : Bool} (h : T (w * 64 + b) = t) : (decide (q < b) && T (w * 64 + q) || (t && decide (q = b))) = (decide (q < b + 1) && T (w * 64 + q)) := by
  by_cases e : q = b
  · subst e; rw [h]; simp
  · by_cases h2 : q < b
    · simp [h2, e, show q < b + 1 by omega]
    · simp [h2, e, show ¬ q < b + 1 by omega]
theorem bt_end {T : Nat → Bool} {w b tot q : Nat} (h : b = min 64 (tot - w * 64) ∨ (b ≤ min 64 (tot - w * 64) ∧ min 64 (tot - w * 64) ≤ b)) (hq : q < 64) : (decide (q < b) && T (w * 64 + q)) = (decide (w * 64 + q < tot) && T (w * 64 + q)) := by
  congr 1
  by_cases e : q < b
  · simp [e]; omega
  · simp [e]; omega
def F260a : Uf := ⟨[], [], [], [], [126], false⟩
/-- PathProver$Space.spread(I[J)V -/
abbrev mu_m260 : ev_M := (10, none, [], ev_b260)
theorem mu_g260 : mu_good mu_m260 := mu_goodk ev_k260
def F260 : Uf := ⟨[], [], [(99, 18)], [], [126], false⟩
theorem sp_spread126 (h : um m H) (e : ud m H = U) (hS : spx m U P f) : mu_TV (mu_D (d + 2)) 260 [.inr (.inr (some 99)), .inl mk, .inr (.inr (some 126))] H (fun H1 => um m H1 ∧ ur m C H H1 ∧ uq F260 U (ud m H1) ∧ ∀ y q, y < (pd f 0 P + 63) / 64 → q < 64 → btz ((ud m H1).2.2.2.2.1 126 y) q = (decide (y * 64 + q < pd f 0 P) && tbz U (pj mk f P P (y * 64 + q)))) := by
  obtain ⟨⟨s4, s10, s11, s12⟩, hk5, ⟨g8, g8b, g18, g18b⟩, ⟨gP, gpd, gsm⟩, hsp, hmo⟩ := id hS
  refine mu_meth (M := mu_m260) rfl rfl ?_
  refine mw_ht (mu_fn_of (show [0, 1, 2].Nodup by decide)) ?_
  refine mw_go mu_g260 (k := 2) (f1 := (2, [(0, .inr (.inr (some 99))), (1, .inl mk), (2, .inr (.inr (some 126)))], [.inl mk, .inr (.inr (some 99))], H)) (C := []) rfl trivial ?_
  refine mw_cV (fun _ => rfl) (show mu_is H (some 99) 13 from (h.1.1.is rfl)) (sp_project (d := d) (C := C) (mk := mk) h e hS) (fun Q1 q1 => ?_)
  obtain ⟨u1, r1, z1, hpj⟩ := q1
  have ht1 : ur m C H Q1 := (ur.refl m C H).trans r1
  obtain ⟨V1, d1⟩ : ∃ V, ud m Q1 = V := ⟨_, rfl⟩
  rw [d1] at z1 hpj
  have qf1 : uq F260 U V1 := (uq.refl F260 U).tr z1 rfl
  refine mw_go mu_g260 (k := 2) (f1 := (7, [(3, .inl (0 : Int32)), (0, .inr (.inr (some 99))), (1, .inl mk), (2, .inr (.inr (some 126)))], [], Q1)) (C := []) rfl trivial ?_
  show mu_W _ _ (7, [(3, .inl (nI 0)), (0, .inr (.inr (some 99))), (1, .inl mk), (2, .inr (.inr (some 126)))], [], Q1) _
  refine mw_sub (L' := [(3, .inl (nI 0)), (0, .inr (.inr (some 99))), (1, .inl mk), (2, .inr (.inr (some 126)))]) (by simp) ?_
  refine mw_down (α := Nat × mu_H) (fun zs => (7, [(3, .inl (nI zs.1)), (0, .inr (.inr (some 99))), (1, .inl mk), (2, .inr (.inr (some 126)))], [], zs.2)) (fun zs => (pd f 0 P + 63) / 64 - zs.1) (fun zs => um m zs.2 ∧ ur m C H zs.2 ∧ (uq F260a V1 (ud m zs.2)) ∧ (zs.1 ≤ (pd f 0 P + 63) / 64) ∧ (∀ y q, y < zs.1 → q < 64 → btz ((ud m zs.2).2.2.2.2.1 126 y) q = (decide (y * 64 + q < pd f 0 P) && tbz U (pj mk f P P (y * 64 + q))))) (fun zs hza iha => ?_) (0, Q1) ⟨u1, ht1, (show uq F260a V1 (ud m Q1) from by rw [d1]; exact uq.refl _ _), (show 0 ≤ (pd f 0 P + 63) / 64 from (by omega)), (show ∀ y q, y < 0 → q < 64 → btz ((ud m Q1).2.2.2.2.1 126 y) q = (decide (y * 64 + q < pd f 0 P) && tbz U (pj mk f P P (y * 64 + q))) from by rw [d1]; exact (fun y q hy => absurd hy (Nat.not_lt_zero _)))⟩
  obtain ⟨w, Hsa⟩ := zs
  obtain ⟨ua, hta, da, hw, hO⟩ := hza
  have ua : um m Hsa := ua
  have hta : ur m C H Hsa := hta
  have zza : uq F260a V1 (ud m Hsa) := da
  have hw : w ≤ (pd f 0 P + 63) / 64 := hw
  have hO : ∀ y q, y < w → q < 64 → btz ((ud m Hsa).2.2.2.2.1 126 y) q = (decide (y * 64 + q < pd f 0 P) && tbz U (pj mk f P P (y * 64 + q))) := hO
  obtain ⟨Va, da⟩ : ∃ V, ud m Hsa = V := ⟨_, rfl⟩
  rw [da] at zza hO
  have qfa : uq F260 U Va := qf1.tr zza rfl
  show mu_W _ _ (7, [(3, .inl (nI w)), (0, .inr (.inr (some 99))), (1, .inl mk), (2, .inr (.inr (some 126)))], [], Hsa) _
  refine mw_go mu_g260 (k := 3) (f1 := (12, [(3, .inl (nI w)), (0, .inr (.inr (some 99))), (1, .inl mk), (2, .inr (.inr (some 126)))], [.inl (mu_i Hsa 99 12), .inl (nI w)], Hsa)) (C := [mu_is Hsa (some 99) 13]) rfl (show mu_is Hsa (some 99) 13 from (ua.1.1.is rfl)) ?_
  rw [(show mu_i Hsa 99 12 = (nI ((pd f 0 P + 63) / 64)) from (ud_i (U := Va) (m := m) (P := 99) (j := 12) da rfl).trans ((zza.i 99 12 rfl).trans ((z1.i 99 12 rfl).trans s12)))]
  refine mw_if (P := (nI w) < (nI ((pd f 0 P + 63) / 64))) (a := 15) (b := 100) (fun _ => rfl) trivial (fun h2 => ?_) (fun h2 => ?_)
  · -- 15: (nI w) < (nI ((pd f 0 P + 63) / 64))
    have nh2 : w < ((pd f 0 P + 63) / 64) := (nI_ltI (by omega) (by omega)).mp (show nI w < nI ((pd f 0 P + 63) / 64) from h2)
    refine mw_go mu_g260 (k := 5) (f1 := (22, [(4, .inr (.inl (0 : Int64))), (3, .inl (nI w)), (0, .inr (.inr (some 99))), (1, .inl mk), (2, .inr (.inr (some 126)))], [.inl ((nI w) * (64 : Int32))], Hsa)) (C := []) rfl trivial ?_
    rw [(show ((nI w) * (64 : Int32)) = (nI (w * 64)) from (nI_mul (a := w) (b := 64)))]
    refine mw_go mu_g260 (k := 4) (f1 := (30, [(6, .inl (nI (w * 64))), (4, .inr (.inl (0 : Int64))), (3, .inl (nI w)), (0, .inr (.inr (some 99))), (1, .inl mk), (2, .inr (.inr (some 126)))], [.inl (mu_i Hsa 99 11), .inl (64 : Int32)], Hsa)) (C := [mu_is Hsa (some 99) 13]) rfl (show mu_is Hsa (some 99) 13 from (ua.1.1.is rfl)) ?_
    rw [(show mu_i Hsa 99 11 = (nI (pd f 0 P)) from (ud_i (U := Va) (m := m) (P := 99) (j := 11) da rfl).trans ((zza.i 99 11 rfl).trans ((z1.i 99 11 rfl).trans s11)))]
    refine mw_go mu_g260 (k := 2) (f1 := (33, [(6, .inl (nI (w * 64))), (4, .inr (.inl (0 : Int64))), (3, .inl (nI w)), (0, .inr (.inr (some 99))), (1, .inl mk), (2, .inr (.inr (some 126)))], [.inl ((nI (pd f 0 P)) - (nI (w * 64))), .inl (64 : Int32)], Hsa)) (C := []) rfl trivial ?_
    rw [(show ((nI (pd f 0 P)) - (nI (w * 64))) = (nI ((pd f 0 P) - (w * 64))) from (nI_sub (a := pd f 0 P) (b := w * 64) (by omega)))]
    refine mw_cIe (fun _ => rfl) trivial (mu_min_ok (d := d) (64 : Int32) (nI ((pd f 0 P) - (w * 64)))) ?_
    rw [show (mu_min (64 : Int32) (nI ((pd f 0 P) - (w * 64)))) = nI (min 64 ((pd f 0 P) - (w * 64))) from mu_min_n (a := 64) (b := (pd f 0 P) - (w * 64)) (by omega) (by omega)]
    refine mw_go mu_g260 (k := 3) (f1 := (41, [(8, .inl (0 : Int32)), (7, .inl (nI (min 64 ((pd f 0 P) - (w * 64))))), (6, .inl (nI (w * 64))), (4, .inr (.inl (0 : Int64))), (3, .inl (nI w)), (0, .inr (.inr (some 99))), (1, .inl mk), (2, .inr (.inr (some 126)))], [], Hsa)) (C := []) rfl trivial ?_
    show mu_W _ _ (41, [(8, .inl (nI 0)), (7, .inl (nI (min 64 ((pd f 0 P) - (w * 64))))), (6, .inl (nI (w * 64))), (4, .inr (.inl (0 : Int64))), (3, .inl (nI w)), (0, .inr (.inr (some 99))), (1, .inl mk), (2, .inr (.inr (some 126)))], [], Hsa) _
    refine mw_sub (L' := [(8, .inl (nI 0)), (4, .inr (.inl (0 : Int64))), (0, .inr (.inr (some 99))), (1, .inl mk), (2, .inr (.inr (some 126))), (3, .inl (nI w)), (6, .inl (nI (w * 64))), (7, .inl (nI (min 64 ((pd f 0 P) - (w * 64)))))]) (by simp) ?_
    refine mw_down (α := Nat × Int64) (fun zs => (41, [(8, .inl (nI zs.1)), (4, .inr (.inl zs.2)), (0, .inr (.inr (some 99))), (1, .inl mk), (2, .inr (.inr (some 126))), (3, .inl (nI w)), (6, .inl (nI (w * 64))), (7, .inl (nI (min 64 ((pd f 0 P) - (w * 64)))))], [], Hsa)) (fun zs => min 64 (pd f 0 P - w * 64) - zs.1) (fun zs => (zs.1 ≤ min 64 (pd f 0 P - w * 64)) ∧ (∀ q, q < 64 → btz zs.2 q = (decide (q < zs.1) && tbz U (pj mk f P P (w * 64 + q))))) (fun zs hzb ihb => ?_) (0, (0 : Int64)) ⟨(show 0 ≤ min 64 (pd f 0 P - w * 64) from (by omega)), (show ∀ q, q < 64 → btz (0 : Int64) q = (decide (q < 0) && tbz U (pj mk f P P (w * 64 + q))) from (fun q hq => by rw [btz_0]; simp))⟩
    obtain ⟨b, bits⟩ := zs
    obtain ⟨hb, hB⟩ := hzb
    have hb : b ≤ min 64 (pd f 0 P - w * 64) := hb
    have hB : ∀ q, q < 64 → btz bits q = (decide (q < b) && tbz U (pj mk f P P (w * 64 + q))) := hB
    show mu_W _ _ (41, [(8, .inl (nI b)), (4, .inr (.inl bits)), (0, .inr (.inr (some 99))), (1, .inl mk), (2, .inr (.inr (some 126))), (3, .inl (nI w)), (6, .inl (nI (w * 64))), (7, .inl (nI (min 64 ((pd f 0 P) - (w * 64)))))], [], Hsa) _
    refine mw_go mu_g260 (k := 2) (f1 := (45, [(8, .inl (nI b)), (4, .inr (.inl bits)), (0, .inr (.inr (some 99))), (1, .inl mk), (2, .inr (.inr (some 126))), (3, .inl (nI w)), (6, .inl (nI (w * 64))), (7, .inl (nI (min 64 ((pd f 0 P) - (w * 64)))))], [.inl (nI (min 64 ((pd f 0 P) - (w * 64)))), .inl (nI b)], Hsa)) (C := []) rfl trivial ?_
    refine mw_if (P := (nI b) < (nI (min 64 ((pd f 0 P) - (w * 64))))) (a := 48) (b := 89) (fun _ => rfl) trivial (fun h4 => ?_) (fun h4 => ?_)
    · -- 48: (nI b) < (nI (min 64 ((pd f 0 P) - (w * 64))))
      have nh4 : b < (min 64 ((pd f 0 P) - (w * 64))) := (nI_ltI (by omega) (by omega)).mp (show nI b < nI (min 64 ((pd f 0 P) - (w * 64))) from h4)
      refine mw_go mu_g260 (k := 2) (f1 := (52, [(8, .inl (nI b)), (4, .inr (.inl bits)), (0, .inr (.inr (some 99))), (1, .inl mk), (2, .inr (.inr (some 126))), (3, .inl (nI w)), (6, .inl (nI (w * 64))), (7, .inl (nI (min 64 ((pd f 0 P) - (w * 64)))))], [.inr (.inr (mu_r Hsa 99 18))], Hsa)) (C := [mu_is Hsa (some 99) 13]) rfl (show mu_is Hsa (some 99) 13 from (ua.1.1.is rfl)) ?_
      rw [(show mu_r Hsa 99 18 = (U.2.2.2.1 99 18) from (ud_q (U := Va) (m := m) (P := 99) (j := 18) da rfl).trans ((zza.r 99 18 rfl).trans (z1.r 99 18 rfl)))]
      refine mw_go mu_g260 (k := 3) (f1 := (57, [(8, .inl (nI b)), (4, .inr (.inl bits)), (0, .inr (.inr (some 99))), (1, .inl mk), (2, .inr (.inr (some 126))), (3, .inl (nI w)), (6, .inl (nI (w * 64))), (7, .inl (nI (min 64 ((pd f 0 P) - (w * 64)))))], [.inl ((nI (w * 64)) + (nI b)), .inr (.inr (U.2.2.2.1 99 18))], Hsa)) (C := []) rfl trivial ?_
      rw [(show ((nI (w * 64)) + (nI b)) = (nI ((w * 64) + b)) from (nI_add (w * 64) b))]
      refine mw_go mu_g260 (k := 1) (f1 := (58, [(8, .inl (nI b)), (4, .inr (.inl bits)), (0, .inr (.inr (some 99))), (1, .inl mk), (2, .inr (.inr (some 126))), (3, .inl (nI w)), (6, .inl (nI (w * 64))), (7, .inl (nI (min 64 ((pd f 0 P) - (w * 64)))))], [.inl (mu_i Hsa (mu_p (U.2.2.2.1 99 18)) (nI ((w * 64) + b)).toNatClampNeg)], Hsa)) (C := [mu_isr Hsa (U.2.2.2.1 99 18) 100, vp_in (nI ((w * 64) + b)) (mu_n Hsa (mu_p (U.2.2.2.1 99 18)))]) rfl (show (mu_isr Hsa (U.2.2.2.1 99 18) 100) ∧ (vp_in (nI ((w * 64) + b)) (mu_n Hsa (mu_p (U.2.2.2.1 99 18)))) from ⟨((ua.iA da rfl rfl (show Va.2.2.2.1 99 18 = (U.2.2.2.1 99 18) from ((zza.r 99 18 rfl).trans (z1.r 99 18 rfl))))).r, (ua.vA (i := (w * 64) + b) da rfl rfl (show Va.2.2.2.1 99 18 = (U.2.2.2.1 99 18) from ((zza.r 99 18 rfl).trans (z1.r 99 18 rfl))) (show (Va.2.2.1 99 18).1 = (U.2.2.1 99 18).1 from ((zza.n 99 18 rfl).trans (z1.n 99 18 rfl))) (by omega) (by omega))⟩) ?_
      rw [(show (mu_i Hsa (mu_p (U.2.2.2.1 99 18)) (nI ((w * 64) + b)).toNatClampNeg) = (nI (pj mk f P P (w * 64 + b))) from ((congrArg (mu_i Hsa (mu_p (U.2.2.2.1 99 18))) (show (nI ((w * 64) + b)).toNatClampNeg = (w * 64) + b from nI_clamp (by omega))).trans (ua.gA da rfl rfl (show Va.2.2.2.1 99 18 = (U.2.2.2.1 99 18) from ((zza.r 99 18 rfl).trans (z1.r 99 18 rfl))))).trans ((congrArg (fun z => z.2 ((w * 64) + b)) (show Va.2.2.1 99 18 = (V1.2.2.1 99 18) from (zza.a 99 18 rfl))).trans (hpj (w * 64 + b) (by omega))))]
      have hpb := pj_b (mk := mk) (s := w * 64 + b) hS (by omega)
      refine mw_go mu_g260 (k := 4) (f1 := (66, [(9, .inl (nI (pj mk f P P (w * 64 + b)))), (8, .inl (nI b)), (4, .inr (.inl bits)), (0, .inr (.inr (some 99))), (1, .inl mk), (2, .inr (.inr (some 126))), (3, .inl (nI w)), (6, .inl (nI (w * 64))), (7, .inl (nI (min 64 ((pd f 0 P) - (w * 64)))))], [.inr (.inr (mu_r Hsa 99 17)), .inr (.inl bits)], Hsa)) (C := [mu_is Hsa (some 99) 13]) rfl (show mu_is Hsa (some 99) 13 from (ua.1.1.is rfl)) ?_
      rw [(ua.1.1.r (p := 99) (j := 17) (q := 127) rfl)]
      refine mw_go mu_g260 (k := 3) (f1 := (71, [(9, .inl (nI (pj mk f P P (w * 64 + b)))), (8, .inl (nI b)), (4, .inr (.inl bits)), (0, .inr (.inr (some 99))), (1, .inl mk), (2, .inr (.inr (some 126))), (3, .inl (nI w)), (6, .inl (nI (w * 64))), (7, .inl (nI (min 64 ((pd f 0 P) - (w * 64)))))], [.inl ((nI (pj mk f P P (w * 64 + b))) >>> ((6 : Int32) &&& 31)), .inr (.inr (some 127)), .inr (.inl bits)], Hsa)) (C := []) rfl trivial ?_
      rw [(show ((nI (pj mk f P P (w * 64 + b))) >>> ((6 : Int32) &&& 31)) = (nI ((pj mk f P P (w * 64 + b)) / 64)) from (nI_shr6 (a := pj mk f P P (w * 64 + b)) (by omega)))]
      refine mw_go mu_g260 (k := 1) (f1 := (72, [(9, .inl (nI (pj mk f P P (w * 64 + b)))), (8, .inl (nI b)), (4, .inr (.inl bits)), (0, .inr (.inr (some 99))), (1, .inl mk), (2, .inr (.inr (some 126))), (3, .inl (nI w)), (6, .inl (nI (w * 64))), (7, .inl (nI (min 64 ((pd f 0 P) - (w * 64)))))], [.inr (.inl (mu_l Hsa 127 (nI ((pj mk f P P (w * 64 + b)) / 64)).toNatClampNeg)), .inr (.inl bits)], Hsa)) (C := [mu_isr Hsa (some 127) 102, vp_in (nI ((pj mk f P P (w * 64 + b)) / 64)) (mu_n Hsa 127)]) rfl (show (mu_isr Hsa (some 127) 102) ∧ (vp_in (nI ((pj mk f P P (w * 64 + b)) / 64)) (mu_n Hsa 127)) from ⟨((ua.1.1.a (p := 127) (x := (102, 256)) rfl).1).r, (by rw [show mu_n Hsa 127 = 256 from (ua.1.1.a (p := 127) (x := (102, 256)) rfl).2]; exact vp_in_nI (n := (pj mk f P P (w * 64 + b)) / 64) (by omega) (by decide))⟩) ?_
      rw [(show (mu_l Hsa 127 (nI ((pj mk f P P (w * 64 + b)) / 64)).toNatClampNeg) = (U.2.2.2.2.1 127) ((pj mk f P P (w * 64 + b)) / 64) from (congrArg (mu_l Hsa 127) (show (nI ((pj mk f P P (w * 64 + b)) / 64)).toNatClampNeg = (pj mk f P P (w * 64 + b)) / 64 from nI_clamp (by omega))).trans ((ud_l (m := m) (p := 127) (i := ((pj mk f P P (w * 64 + b)) / 64)) da rfl).trans (congrFun (show Va.2.2.2.2.1 127 = (U.2.2.2.2.1 127) from ((zza.l 127 rfl).trans (z1.l 127 rfl))) ((pj mk f P P (w * 64 + b)) / 64))))]
      refine mw_go mu_g260 (k := 7) (f1 := (81, [(9, .inl (nI (pj mk f P P (w * 64 + b)))), (8, .inl (nI b)), (4, .inr (.inl bits)), (0, .inr (.inr (some 99))), (1, .inl mk), (2, .inr (.inr (some 126))), (3, .inl (nI w)), (6, .inl (nI (w * 64))), (7, .inl (nI (min 64 ((pd f 0 P) - (w * 64)))))], [.inr (.inl (bits ||| ((((((U.2.2.2.2.1 127) ((pj mk f P P (w * 64 + b)) / 64)).toUInt64 >>> ((nI (pj mk f P P (w * 64 + b))).toInt64.toUInt64 &&& Int64.toUInt64 63)).toInt64) &&& (1 : Int64)) <<< ((nI b).toInt64 &&& 63))))], Hsa)) (C := []) rfl trivial ?_
      obtain ⟨bn, hbn⟩ : ∃ y, y = (bits ||| ((((((U.2.2.2.2.1 127) ((pj mk f P P (w * 64 + b)) / 64)).toUInt64 >>> ((nI (pj mk f P P (w * 64 + b))).toInt64.toUInt64 &&& Int64.toUInt64 63)).toInt64) &&& (1 : Int64)) <<< ((nI b).toInt64 &&& 63))) := ⟨_, rfl⟩
      rw [← hbn]
      refine mw_go mu_g260 (k := 2) (f1 := (86, [(8, .inl ((nI b) + 1)), (4, .inr (.inl bn)), (9, .inl (nI (pj mk f P P (w * 64 + b)))), (0, .inr (.inr (some 99))), (1, .inl mk), (2, .inr (.inr (some 126))), (3, .inl (nI w)), (6, .inl (nI (w * 64))), (7, .inl (nI (min 64 ((pd f 0 P) - (w * 64)))))], [], Hsa)) (C := []) rfl trivial ?_
      rw [(show ((nI b) + 1) = (nI (b + 1)) from (nI_add b 1))]
      refine mw_go mu_g260 (k := 1) (f1 := (41, [(8, .inl (nI (b + 1))), (4, .inr (.inl bn)), (9, .inl (nI (pj mk f P P (w * 64 + b)))), (0, .inr (.inr (some 99))), (1, .inl mk), (2, .inr (.inr (some 126))), (3, .inl (nI w)), (6, .inl (nI (w * 64))), (7, .inl (nI (min 64 ((pd f 0 P) - (w * 64)))))], [], Hsa)) (C := []) rfl trivial ?_
      exact mw_sub (by simp) (ihb (b + 1, bn) ⟨(show (b + 1) ≤ min 64 (pd f 0 P - w * 64) from (by omega)), (show ∀ q, q < 64 → btz bn q = (decide (q < (b + 1)) && tbz U (pj mk f P P (w * 64 + q))) from (fun q hq => by rw [hbn, btz_ask (by omega), btz_set (by omega) hq, hB q hq]; exact bt_step (T := fun s => tbz U (pj mk f P P s)) rfl))⟩ (by show min 64 (pd f 0 P - w * 64) - (b + 1) < min 64 (pd f 0 P - w * 64) - b; omega))
    · -- 89: not (nI b) < (nI (min 64 ((pd f 0 P) - (w * 64))))
      have nh4 : ¬ b < (min 64 ((pd f 0 P) - (w * 64))) := fun z => h4 (show nI b < nI (min 64 ((pd f 0 P) - (w * 64))) from (nI_ltI (by omega) (by omega)).mpr z)
      refine mw_go mu_g260 (k := 4) (f1 := (94, [(8, .inl (nI b)), (4, .inr (.inl bits)), (0, .inr (.inr (some 99))), (1, .inl mk), (2, .inr (.inr (some 126))), (3, .inl (nI w)), (6, .inl (nI (w * 64))), (7, .inl (nI (min 64 ((pd f 0 P) - (w * 64)))))], [], (mu_sl Hsa 126 (nI w).toNatClampNeg bits))) (C := [mu_is Hsa (some 126) 102, vp_in (nI w) (mu_n Hsa 126)]) rfl (show (mu_is Hsa (some 126) 102) ∧ (vp_in (nI w) (mu_n Hsa 126)) from ⟨((ua.1.1.a (p := 126) (x := (102, 256)) rfl).1), (by rw [show mu_n Hsa 126 = 256 from (ua.1.1.a (p := 126) (x := (102, 256)) rfl).2]; exact vp_in_nI (n := w) (by omega) (by decide))⟩) ?_
      rw [(show (nI w).toNatClampNeg = w from nI_clamp (by omega))]
      obtain ⟨u5, r5, d5⟩ : um m (mu_sl Hsa 126 w bits) ∧ ur m C Hsa (mu_sl Hsa 126 w bits) ∧ ud m (mu_sl Hsa 126 w bits) = (upL Va 126 w bits) := ua.sL (C := C) da rfl
      generalize (mu_sl Hsa 126 w bits) = Q5 at u5 r5 d5 ⊢
      have qf5 : uq F260 U (upL Va 126 w bits) := qfa.L rfl
      have ht5 : ur m C H Q5 := hta.trans r5
      refine mw_go mu_g260 (k := 1) (f1 := (97, [(3, .inl ((nI w) + 1)), (8, .inl (nI b)), (4, .inr (.inl bits)), (0, .inr (.inr (some 99))), (1, .inl mk), (2, .inr (.inr (some 126))), (6, .inl (nI (w * 64))), (7, .inl (nI (min 64 ((pd f 0 P) - (w * 64)))))], [], Q5)) (C := []) rfl trivial ?_
      rw [(show ((nI w) + 1) = (nI (w + 1)) from (nI_add w 1))]
      refine mw_go mu_g260 (k := 1) (f1 := (7, [(3, .inl (nI (w + 1))), (8, .inl (nI b)), (4, .inr (.inl bits)), (0, .inr (.inr (some 99))), (1, .inl mk), (2, .inr (.inr (some 126))), (6, .inl (nI (w * 64))), (7, .inl (nI (min 64 ((pd f 0 P) - (w * 64)))))], [], Q5)) (C := []) rfl trivial ?_
      exact mw_sub (by simp) (iha (w + 1, Q5) ⟨u5, ht5, (show uq F260a V1 (ud m Q5) from by rw [d5]; exact (zza.L rfl)), (show (w + 1) ≤ (pd f 0 P + 63) / 64 from (by omega)), (show ∀ y q, y < (w + 1) → q < 64 → btz ((ud m Q5).2.2.2.2.1 126 y) q = (decide (y * 64 + q < pd f 0 P) && tbz U (pj mk f P P (y * 64 + q))) from by rw [d5]; exact (fun y q hy hq => by show btz (if 126 = 126 ∧ y = w then bits else Va.2.2.2.2.1 126 y) q = _; by_cases ey : y = w; (rw [if_pos ⟨rfl, ey⟩, hB q hq, ey]; exact bt_end (T := fun s => tbz U (pj mk f P P s)) (by omega) hq); (rw [if_neg (fun z => ey z.2)]; exact hO y q (by omega) hq)))⟩ (by show (pd f 0 P + 63) / 64 - (w + 1) < (pd f 0 P + 63) / 64 - w; omega))
  · -- 100: not (nI w) < (nI ((pd f 0 P + 63) / 64))
    have nh2 : ¬ w < ((pd f 0 P + 63) / 64) := fun z => h2 (show nI w < nI ((pd f 0 P + 63) / 64) from (nI_ltI (by omega) (by omega)).mpr z)
    exact mw_of (fun _ => mu_ret rfl trivial ⟨Hsa, rfl, ua, hta, (by rw [da]; exact qfa), (by rw [da]; exact fun y q hy hq => hO y q (by omega) hq)⟩)
end Spread
