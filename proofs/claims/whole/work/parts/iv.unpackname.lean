/-! THE STORE OF SETS: a set laid out by name -/
section UnpackName
variable {H : mu_H} {U V : Ud} {m d id st n y E ga gi gq : Nat} {C : Nat → Nat} {fc L L' La L0 : Nat → Int64} {S : Nat → Bool}
theorem unp_2N (hz : ∀ x, S x = true ↔ x / 64 < n ∧ btz (fc (st % 8192 + 1 + x / 64)) (x % 64) = true) (hS : ∀ x, S x = true → x < 16384) (hg : ∀ j, L' j = if 0 ≤ j ∧ j < 0 + min 256 n then fc (st % 8192 + 1 + (j - 0)) else L j) (t : Nat) (hc : t / 64 < n → bts L t = false) : bts L' t = true ↔ bts L t = true ∨ S t = true := by
  unfold bts
  rw [hg (t / 64)]
  by_cases k : t / 64 < min 256 n
  · rw [if_pos ⟨Nat.zero_le _, by omega⟩, Nat.sub_zero]
    have c1 : btz (L (t / 64)) (t % 64) = false := hc (by omega)
    rw [c1, hz t]
    exact ⟨fun z => Or.inr ⟨by omega, z⟩, fun z => z.elim (fun q => by cases q) (fun q => q.2)⟩
  · rw [if_neg (fun z => k (by omega))]
    refine ⟨Or.inl, fun z => z.elim id (fun q => ?_)⟩
    have q1 := hS t q
    have q2 := ((hz t).mp q).1
    omega
theorem sat.g {F : Uf} (hs : sat U id st fc) (h : uq F U V) (h1 : in2 F.a 113 3 = false) (hk : GKP ga gi U V) (ha : ¬ ga = 114) : sat V id st fc := by
  obtain ⟨a1, a2, a3, a4⟩ := hs
  have e1 := h.a 113 3 h1
  have e2 := hk.2.1 114 (st / 8192) (fun z => ha z.1)
  exact ⟨by rw [e1]; exact a1, by rw [e1]; exact a2, a3, by rw [e2]; exact a4⟩
theorem LSN.n114 {q L2 : Nat} (h : LSN U ga gi q L2) : ¬ ga = 114 := by
  rcases h with w | w
  · have := w.1; omega
  · have := w.1; omega
def F235n : Uf := ⟨[], [], [], [], [148, 162], true⟩
theorem st_unpN0 (h : um m H) (e : ud m H = U) (hs : sat U id st fc) (hgl : LSN U ga gi gq 256) (hz : stz fc st S) (hS : ∀ x, S x = true → x < 16384) (hf : hfm fc st = 0) : mu_TV (mu_D (d + 3)) 235 [.inr (.inr (some 113)), .inl (nI id), .inr (.inr (some gq))] H (fun H1 => um m H1 ∧ ur m C H H1 ∧ uq FLS U (ud m H1) ∧ GKP ga gi U (ud m H1) ∧ LSN (ud m H1) ga gi gq 256 ∧ ∀ t, (hfm fc st = 2 → t / 64 < hln fc st → bts (lgf U ga gi) t = false) → (bts (lgf (ud m H1) ga gi) t = true ↔ bts (lgf U ga gi) t = true ∨ S t = true)) := by
  obtain ⟨⟨hi1, hi2⟩, hst, hst2, hch⟩ := (show sat U id st fc from hs)
  obtain ⟨hz1, hz2, hz3, hz4, hz5⟩ := hz
  obtain ⟨hm1, hm2, hm3⟩ := hz3 hf
  refine mu_meth (M := mu_m235) rfl rfl ?_
  refine mw_ht (mu_fn_of (show [0, 1, 2].Nodup by decide)) ?_
  refine mw_go mu_g235 (k := 2) (f1 := (2, [(0, .inr (.inr (some 113))), (1, .inl (nI id)), (2, .inr (.inr (some gq)))], [.inl (nI id), .inr (.inr (some 113))], H)) (C := []) rfl trivial ?_
  refine mw_cIe (fun _ => rfl) (show mu_is H (some 113) 11 from (h.1.1.is rfl)) (st_form (d := (d + 1)) h e hs) ?_
  rw [show nI (hfm fc st) = (0 : Int32) from congrArg nI hf]
  refine mw_go mu_g235 (k := 3) (f1 := (8, [(3, .inl (0 : Int32)), (0, .inr (.inr (some 113))), (1, .inl (nI id)), (2, .inr (.inr (some gq)))], [.inl (nI id), .inr (.inr (some 113))], H)) (C := []) rfl trivial ?_
  refine mw_cIe (fun _ => rfl) (show mu_is H (some 113) 11 from (h.1.1.is rfl)) (st_parts (d := (d + 1)) h e hs) ?_
  rw [show nI (hpt fc st) = nI (hsz fc st) from congrArg nI (by unfold hpt; rw [hf]; rfl)]
  have kl := hln_lt (fc := fc) (st := st)
  have kz := hsz_lt (fc := fc) (st := st)
  refine mw_go mu_g235 (k := 3) (f1 := (15, [(4, .inl (nI (hsz fc st))), (3, .inl (0 : Int32)), (0, .inr (.inr (some 113))), (1, .inl (nI id)), (2, .inr (.inr (some gq)))], [.inl (2 : Int32), .inl (0 : Int32)], H)) (C := []) rfl trivial ?_
  refine mw_if (P := (0 : Int32) = (2 : Int32)) (a := 18) (b := 58) (fun _ => rfl) trivial (fun h3 => absurd h3 (by decide)) (fun h3 => ?_)
  refine mw_go mu_g235 (k := 2) (f1 := (61, [(5, .inl (0 : Int32)), (4, .inl (nI (hsz fc st))), (3, .inl (0 : Int32)), (0, .inr (.inr (some 113))), (1, .inl (nI id)), (2, .inr (.inr (some gq)))], [], H)) (C := []) rfl trivial ?_
  show mu_W _ _ (61, [(5, .inl (nI 0)), (4, .inl (nI (hsz fc st))), (3, .inl (0 : Int32)), (0, .inr (.inr (some 113))), (1, .inl (nI id)), (2, .inr (.inr (some gq)))], [], H) _
  refine mw_sub (L' := [(5, .inl (nI 0)), (0, .inr (.inr (some 113))), (1, .inl (nI id)), (2, .inr (.inr (some gq))), (3, .inl (0 : Int32)), (4, .inl (nI (hsz fc st)))]) (by simp) ?_
  refine mw_down (α := Nat × mu_H) (fun zs => (61, [(5, .inl (nI zs.1)), (0, .inr (.inr (some 113))), (1, .inl (nI id)), (2, .inr (.inr (some gq))), (3, .inl (0 : Int32)), (4, .inl (nI (hsz fc st)))], [], zs.2)) (fun zs => hsz fc st - zs.1) (fun zs => um m zs.2 ∧ ur m C H zs.2 ∧ (uq F235n U (ud m zs.2)) ∧ (zs.1 ≤ hsz fc st) ∧ (LSN (ud m zs.2) ga gi gq 256) ∧ (GKP ga gi U (ud m zs.2)) ∧ (lyd fc st 1 zs.1 (lgf U ga gi) (lgf (ud m zs.2) ga gi))) (fun zs hza iha => ?_) (0, H) ⟨h, (ur.refl m C H), (show uq F235n U (ud m H) from by rw [e]; exact uq.refl _ _), (show 0 ≤ hsz fc st from (by omega)), (show LSN (ud m H) ga gi gq 256 from by rw [e]; exact hgl), (show GKP ga gi U (ud m H) from by rw [e]; exact (GKP.refl _ _ _)), (show lyd fc st 1 0 (lgf U ga gi) (lgf (ud m H) ga gi) from by rw [e]; exact lyd_0)⟩
  obtain ⟨y, Hsa⟩ := zs
  obtain ⟨ua, hta, da, hw, hlg, hka, hB⟩ := hza
  have ua : um m Hsa := ua
  have hta : ur m C H Hsa := hta
  have zza : uq F235n U (ud m Hsa) := da
  have hw : y ≤ hsz fc st := hw
  have hlg : LSN (ud m Hsa) ga gi gq 256 := hlg
  have hka : GKP ga gi U (ud m Hsa) := hka
  have hB : lyd fc st 1 y (lgf U ga gi) (lgf (ud m Hsa) ga gi) := hB
  obtain ⟨Va, da⟩ : ∃ V, ud m Hsa = V := ⟨_, rfl⟩
  rw [da] at zza hlg hka hB
  show mu_W _ _ (61, [(5, .inl (nI y)), (0, .inr (.inr (some 113))), (1, .inl (nI id)), (2, .inr (.inr (some gq))), (3, .inl (0 : Int32)), (4, .inl (nI (hsz fc st)))], [], Hsa) _
  refine mw_go mu_g235 (k := 2) (f1 := (65, [(5, .inl (nI y)), (0, .inr (.inr (some 113))), (1, .inl (nI id)), (2, .inr (.inr (some gq))), (3, .inl (0 : Int32)), (4, .inl (nI (hsz fc st)))], [.inl (nI (hsz fc st)), .inl (nI y)], Hsa)) (C := []) rfl trivial ?_
  refine mw_if (P := (nI y) < (nI (hsz fc st))) (a := 68) (b := 128) (fun _ => rfl) trivial (fun h4 => ?_) (fun h4 => ?_)
  · -- 68: (nI y) < (nI (hsz fc st))
    have nh4 : y < (hsz fc st) := (nI_ltI (by omega) (by omega)).mp (show nI y < nI (hsz fc st) from h4)
    refine mw_go mu_g235 (k := 1) (f1 := (69, [(5, .inl (nI y)), (0, .inr (.inr (some 113))), (1, .inl (nI id)), (2, .inr (.inr (some gq))), (3, .inl (0 : Int32)), (4, .inl (nI (hsz fc st)))], [.inl (0 : Int32)], Hsa)) (C := []) rfl trivial ?_
    refine mw_if (P := (0 : Int32) = 0) (a := 72) (b := 98) (fun _ => rfl) trivial (fun h5 => ?_) (fun h5 => absurd (by decide) h5)
    refine mw_go mu_g235 (k := 3) (f1 := (76, [(5, .inl (nI y)), (0, .inr (.inr (some 113))), (1, .inl (nI id)), (2, .inr (.inr (some gq))), (3, .inl (0 : Int32)), (4, .inl (nI (hsz fc st)))], [.inl (nI y), .inl (nI id), .inr (.inr (some 113))], Hsa)) (C := []) rfl trivial ?_
    refine mw_cIe (fun _ => rfl) (show mu_is Hsa (some 113) 11 from (ua.1.1.is rfl)) (st_num (d := (d + 1)) (p := y) ua da (hs.g zza rfl hka hgl.n114) (by omega) (by omega)) ?_
    have kn6 : nmzU fc st y < 16384 := hS _ ((hm3.2 _).mpr ⟨y, by omega, by rw [Nat.one_mul]; exact Nat.le_refl _, by rw [Nat.one_mul]; exact Nat.le_refl _⟩)
    refine mw_go mu_g235 (k := 5) (f1 := (87, [(6, .inl (nI (nmzU fc st y))), (5, .inl (nI y)), (0, .inr (.inr (some 113))), (1, .inl (nI id)), (2, .inr (.inr (some gq))), (3, .inl (0 : Int32)), (4, .inl (nI (hsz fc st)))], [.inl ((nI (nmzU fc st y)) >>> ((6 : Int32) &&& 31)), .inr (.inr (some gq))], Hsa)) (C := []) rfl trivial ?_
    rw [(show ((nI (nmzU fc st y)) >>> ((6 : Int32) &&& 31)) = (nI ((nmzU fc st y) / 64)) from (nI_shr6 (a := nmzU fc st y) (by omega)))]
    refine mw_go mu_g235 (k := 1) (f1 := (88, [(6, .inl (nI (nmzU fc st y))), (5, .inl (nI y)), (0, .inr (.inr (some 113))), (1, .inl (nI id)), (2, .inr (.inr (some gq))), (3, .inl (0 : Int32)), (4, .inl (nI (hsz fc st)))], [.inl (nI ((nmzU fc st y) / 64)), .inr (.inr (some gq)), .inl (nI ((nmzU fc st y) / 64)), .inr (.inr (some gq))], Hsa)) (C := []) rfl trivial ?_
    obtain ⟨kb7, kc7, kd7⟩ := LSN.read ua da (show LSN Va ga gi gq 256 from hlg)
    refine mw_go mu_g235 (k := 1) (f1 := (89, [(6, .inl (nI (nmzU fc st y))), (5, .inl (nI y)), (0, .inr (.inr (some 113))), (1, .inl (nI id)), (2, .inr (.inr (some gq))), (3, .inl (0 : Int32)), (4, .inl (nI (hsz fc st)))], [.inr (.inl (mu_l Hsa gq (nI ((nmzU fc st y) / 64)).toNatClampNeg)), .inl (nI ((nmzU fc st y) / 64)), .inr (.inr (some gq))], Hsa)) (C := [mu_isr Hsa (some gq) 102, vp_in (nI ((nmzU fc st y) / 64)) (mu_n Hsa gq)]) rfl (show (mu_isr Hsa (some gq) 102) ∧ (vp_in (nI ((nmzU fc st y) / 64)) (mu_n Hsa gq)) from ⟨kb7.r, (by rw [kc7]; exact vp_in_nI (n := (nmzU fc st y) / 64) (by omega) (by omega))⟩) ?_
    rw [show (mu_l Hsa gq (nI ((nmzU fc st y) / 64)).toNatClampNeg) = (lgf Va ga gi ((nmzU fc st y) / 64)) from (congrArg (mu_l Hsa gq) (show (nI ((nmzU fc st y) / 64)).toNatClampNeg = (nmzU fc st y) / 64 from nI_clamp (by omega))).trans (kd7 ((nmzU fc st y) / 64))]
    refine mw_go mu_g235 (k := 4) (f1 := (94, [(6, .inl (nI (nmzU fc st y))), (5, .inl (nI y)), (0, .inr (.inr (some 113))), (1, .inl (nI id)), (2, .inr (.inr (some gq))), (3, .inl (0 : Int32)), (4, .inl (nI (hsz fc st)))], [.inr (.inl ((lgf Va ga gi ((nmzU fc st y) / 64)) ||| ((1 : Int64) <<< ((nI (nmzU fc st y)).toInt64 &&& 63)))), .inl (nI ((nmzU fc st y) / 64)), .inr (.inr (some gq))], Hsa)) (C := []) rfl trivial ?_
    obtain ⟨kb8, kc8, -⟩ := LSN.read ua da (show LSN Va ga gi gq 256 from hlg)
    refine mw_go mu_g235 (k := 1) (f1 := (95, [(6, .inl (nI (nmzU fc st y))), (5, .inl (nI y)), (0, .inr (.inr (some 113))), (1, .inl (nI id)), (2, .inr (.inr (some gq))), (3, .inl (0 : Int32)), (4, .inl (nI (hsz fc st)))], [], (mu_sl Hsa gq (nI ((nmzU fc st y) / 64)).toNatClampNeg ((lgf Va ga gi ((nmzU fc st y) / 64)) ||| ((1 : Int64) <<< ((nI (nmzU fc st y)).toInt64 &&& 63)))))) (C := [mu_is Hsa (some gq) 102, vp_in (nI ((nmzU fc st y) / 64)) (mu_n Hsa gq)]) rfl (show (mu_is Hsa (some gq) 102) ∧ (vp_in (nI ((nmzU fc st y) / 64)) (mu_n Hsa gq)) from ⟨kb8, (by rw [kc8]; exact vp_in_nI (n := (nmzU fc st y) / 64) (by omega) (by decide))⟩) ?_
    rw [(show (nI ((nmzU fc st y) / 64)).toNatClampNeg = (nmzU fc st y) / 64 from nI_clamp (by omega))]
    obtain ⟨u8, r8, z8, gk8, gl8, gf8⟩ := LSN.write (C := C) (k := (nmzU fc st y) / 64) (v := ((lgf Va ga gi ((nmzU fc st y) / 64)) ||| ((1 : Int64) <<< ((nI (nmzU fc st y)).toInt64 &&& 63)))) ua da (show LSN Va ga gi gq 256 from hlg)
    generalize (mu_sl Hsa gq ((nmzU fc st y) / 64) ((lgf Va ga gi ((nmzU fc st y) / 64)) ||| ((1 : Int64) <<< ((nI (nmzU fc st y)).toInt64 &&& 63)))) = Q8 at u8 r8 z8 gk8 gl8 gf8 ⊢
    obtain ⟨V8, d8⟩ : ∃ V, ud m Q8 = V := ⟨_, rfl⟩
    rw [d8] at z8 gk8 gl8 gf8
    have ht8 : ur m C H Q8 := hta.trans r8
    refine mw_go mu_g235 (k := 2) (f1 := (125, [(5, .inl ((nI y) + 1)), (6, .inl (nI (nmzU fc st y))), (0, .inr (.inr (some 113))), (1, .inl (nI id)), (2, .inr (.inr (some gq))), (3, .inl (0 : Int32)), (4, .inl (nI (hsz fc st)))], [], Q8)) (C := []) rfl trivial ?_
    rw [(show ((nI y) + 1) = (nI (y + 1)) from (nI_add y 1))]
    refine mw_go mu_g235 (k := 1) (f1 := (61, [(5, .inl (nI (y + 1))), (6, .inl (nI (nmzU fc st y))), (0, .inr (.inr (some 113))), (1, .inl (nI id)), (2, .inr (.inr (some gq))), (3, .inl (0 : Int32)), (4, .inl (nI (hsz fc st)))], [], Q8)) (C := []) rfl trivial ?_
    exact mw_sub (by simp) (iha (y + 1, Q8) ⟨u8, ht8, (show uq F235n U (ud m Q8) from by rw [d8]; exact (zza.tr z8 rfl)), (show (y + 1) ≤ hsz fc st from (by omega)), (show LSN (ud m Q8) ga gi gq 256 from by rw [d8]; exact gl8), (show GKP ga gi U (ud m Q8) from by rw [d8]; exact (hka.trans gk8)), (show lyd fc st 1 (y + 1) (lgf U ga gi) (lgf (ud m Q8) ga gi) from by rw [d8]; exact (by rw [show lgf V8 ga gi = _ from funext gf8]; exact lyd_1 hB (by omega)))⟩ (by show hsz fc st - (y + 1) < hsz fc st - y; omega))
  · -- 128: not (nI y) < (nI (hsz fc st))
    have nh4 : ¬ y < (hsz fc st) := fun z => h4 (show nI y < nI (hsz fc st) from (nI_ltI (by omega) (by omega)).mpr z)
    exact mw_of (fun _ => mu_ret rfl trivial ⟨Hsa, rfl, ua, hta, (by rw [da]; exact zza.mono rfl), (by rw [da]; exact hka), (by rw [da]; exact hlg), (by rw [da]; exact fun t _ => lyd_e (n := y) hB (by rw [show y = hsz fc st by omega]; exact hm3) t)⟩)

theorem st_unpN1 (h : um m H) (e : ud m H = U) (hs : sat U id st fc) (hgl : LSN U ga gi gq 256) (hz : stz fc st S) (hS : ∀ x, S x = true → x < 16384) (hf : hfm fc st = 1) : mu_TV (mu_D (d + 3)) 235 [.inr (.inr (some 113)), .inl (nI id), .inr (.inr (some gq))] H (fun H1 => um m H1 ∧ ur m C H H1 ∧ uq FLS U (ud m H1) ∧ GKP ga gi U (ud m H1) ∧ LSN (ud m H1) ga gi gq 256 ∧ ∀ t, (hfm fc st = 2 → t / 64 < hln fc st → bts (lgf U ga gi) t = false) → (bts (lgf (ud m H1) ga gi) t = true ↔ bts (lgf U ga gi) t = true ∨ S t = true)) := by
  obtain ⟨⟨hi1, hi2⟩, hst, hst2, hch⟩ := (show sat U id st fc from hs)
  obtain ⟨hz1, hz2, hz3, hz4, hz5⟩ := hz
  obtain ⟨hm2, hm3⟩ := hz4 hf
  refine mu_meth (M := mu_m235) rfl rfl ?_
  refine mw_ht (mu_fn_of (show [0, 1, 2].Nodup by decide)) ?_
  refine mw_go mu_g235 (k := 2) (f1 := (2, [(0, .inr (.inr (some 113))), (1, .inl (nI id)), (2, .inr (.inr (some gq)))], [.inl (nI id), .inr (.inr (some 113))], H)) (C := []) rfl trivial ?_
  refine mw_cIe (fun _ => rfl) (show mu_is H (some 113) 11 from (h.1.1.is rfl)) (st_form (d := (d + 1)) h e hs) ?_
  rw [show nI (hfm fc st) = (1 : Int32) from congrArg nI hf]
  refine mw_go mu_g235 (k := 3) (f1 := (8, [(3, .inl (1 : Int32)), (0, .inr (.inr (some 113))), (1, .inl (nI id)), (2, .inr (.inr (some gq)))], [.inl (nI id), .inr (.inr (some 113))], H)) (C := []) rfl trivial ?_
  refine mw_cIe (fun _ => rfl) (show mu_is H (some 113) 11 from (h.1.1.is rfl)) (st_parts (d := (d + 1)) h e hs) ?_
  rw [show nI (hpt fc st) = nI (2 * hln fc st) from congrArg nI (by unfold hpt; rw [hf]; rfl)]
  have kl := hln_lt (fc := fc) (st := st)
  have kz := hsz_lt (fc := fc) (st := st)
  refine mw_go mu_g235 (k := 3) (f1 := (15, [(4, .inl (nI (2 * hln fc st))), (3, .inl (1 : Int32)), (0, .inr (.inr (some 113))), (1, .inl (nI id)), (2, .inr (.inr (some gq)))], [.inl (2 : Int32), .inl (1 : Int32)], H)) (C := []) rfl trivial ?_
  refine mw_if (P := (1 : Int32) = (2 : Int32)) (a := 18) (b := 58) (fun _ => rfl) trivial (fun h3 => absurd h3 (by decide)) (fun h3 => ?_)
  refine mw_go mu_g235 (k := 2) (f1 := (61, [(5, .inl (0 : Int32)), (4, .inl (nI (2 * hln fc st))), (3, .inl (1 : Int32)), (0, .inr (.inr (some 113))), (1, .inl (nI id)), (2, .inr (.inr (some gq)))], [], H)) (C := []) rfl trivial ?_
  show mu_W _ _ (61, [(5, .inl (nI 0)), (4, .inl (nI (2 * hln fc st))), (3, .inl (1 : Int32)), (0, .inr (.inr (some 113))), (1, .inl (nI id)), (2, .inr (.inr (some gq)))], [], H) _
  refine mw_sub (L' := [(5, .inl (nI 0)), (0, .inr (.inr (some 113))), (1, .inl (nI id)), (2, .inr (.inr (some gq))), (3, .inl (1 : Int32)), (4, .inl (nI (2 * hln fc st)))]) (by simp) ?_
  refine mw_down (α := Nat × mu_H) (fun zs => (61, [(5, .inl (nI zs.1)), (0, .inr (.inr (some 113))), (1, .inl (nI id)), (2, .inr (.inr (some gq))), (3, .inl (1 : Int32)), (4, .inl (nI (2 * hln fc st)))], [], zs.2)) (fun zs => 2 * hln fc st - zs.1) (fun zs => um m zs.2 ∧ ur m C H zs.2 ∧ (uq F235n U (ud m zs.2)) ∧ (zs.1 ≤ 2 * hln fc st) ∧ (LSN (ud m zs.2) ga gi gq 256) ∧ (GKP ga gi U (ud m zs.2)) ∧ (lyd fc st 2 zs.1 (lgf U ga gi) (lgf (ud m zs.2) ga gi))) (fun zs hza iha => ?_) (0, H) ⟨h, (ur.refl m C H), (show uq F235n U (ud m H) from by rw [e]; exact uq.refl _ _), (show 0 ≤ 2 * hln fc st from (by omega)), (show LSN (ud m H) ga gi gq 256 from by rw [e]; exact hgl), (show GKP ga gi U (ud m H) from by rw [e]; exact (GKP.refl _ _ _)), (show lyd fc st 2 0 (lgf U ga gi) (lgf (ud m H) ga gi) from by rw [e]; exact lyd_0)⟩
  obtain ⟨y, Hsa⟩ := zs
  obtain ⟨ua, hta, da, hw, hlg, hka, hB⟩ := hza
  have ua : um m Hsa := ua
  have hta : ur m C H Hsa := hta
  have zza : uq F235n U (ud m Hsa) := da
  have hw : y ≤ 2 * hln fc st := hw
  have hlg : LSN (ud m Hsa) ga gi gq 256 := hlg
  have hka : GKP ga gi U (ud m Hsa) := hka
  have hB : lyd fc st 2 y (lgf U ga gi) (lgf (ud m Hsa) ga gi) := hB
  obtain ⟨Va, da⟩ : ∃ V, ud m Hsa = V := ⟨_, rfl⟩
  rw [da] at zza hlg hka hB
  show mu_W _ _ (61, [(5, .inl (nI y)), (0, .inr (.inr (some 113))), (1, .inl (nI id)), (2, .inr (.inr (some gq))), (3, .inl (1 : Int32)), (4, .inl (nI (2 * hln fc st)))], [], Hsa) _
  refine mw_go mu_g235 (k := 2) (f1 := (65, [(5, .inl (nI y)), (0, .inr (.inr (some 113))), (1, .inl (nI id)), (2, .inr (.inr (some gq))), (3, .inl (1 : Int32)), (4, .inl (nI (2 * hln fc st)))], [.inl (nI (2 * hln fc st)), .inl (nI y)], Hsa)) (C := []) rfl trivial ?_
  refine mw_if (P := (nI y) < (nI (2 * hln fc st))) (a := 68) (b := 128) (fun _ => rfl) trivial (fun h4 => ?_) (fun h4 => ?_)
  · -- 68: (nI y) < (nI (2 * hln fc st))
    have nh4 : y < (2 * hln fc st) := (nI_ltI (by omega) (by omega)).mp (show nI y < nI (2 * hln fc st) from h4)
    refine mw_go mu_g235 (k := 1) (f1 := (69, [(5, .inl (nI y)), (0, .inr (.inr (some 113))), (1, .inl (nI id)), (2, .inr (.inr (some gq))), (3, .inl (1 : Int32)), (4, .inl (nI (2 * hln fc st)))], [.inl (1 : Int32)], Hsa)) (C := []) rfl trivial ?_
    refine mw_if (P := (1 : Int32) = 0) (a := 72) (b := 98) (fun _ => rfl) trivial (fun h5 => absurd h5 (by decide)) (fun h5 => ?_)
    refine mw_go mu_g235 (k := 6) (f1 := (105, [(5, .inl (nI y)), (0, .inr (.inr (some 113))), (1, .inl (nI id)), (2, .inr (.inr (some gq))), (3, .inl (1 : Int32)), (4, .inl (nI (2 * hln fc st)))], [.inl ((2 : Int32) * (nI y)), .inl (nI id), .inr (.inr (some 113)), .inr (.inr (some gq))], Hsa)) (C := []) rfl trivial ?_
    rw [(show ((2 : Int32) * (nI y)) = (nI (2 * y)) from (nI_mul (a := 2) (b := y)))]
    refine mw_cIe (fun _ => rfl) (show mu_is Hsa (some 113) 11 from (ua.1.1.is rfl)) (st_num (d := (d + 1)) (p := 2 * y) ua da (hs.g zza rfl hka hgl.n114) (by omega) (by omega)) ?_
    have kn6 : nmzU fc st (2 * y) < 16384 := hS _ ((hm3.2 _).mpr ⟨y, by omega, Nat.le_refl _, hm2 y (by omega)⟩)
    refine mw_go mu_g235 (k := 5) (f1 := (114, [(5, .inl (nI y)), (0, .inr (.inr (some 113))), (1, .inl (nI id)), (2, .inr (.inr (some gq))), (3, .inl (1 : Int32)), (4, .inl (nI (2 * hln fc st)))], [.inl ((2 : Int32) * (nI y)), .inl (nI id), .inr (.inr (some 113)), .inl (nI (nmzU fc st (2 * y))), .inr (.inr (some gq))], Hsa)) (C := []) rfl trivial ?_
    rw [(show ((2 : Int32) * (nI y)) = (nI (2 * y)) from (nI_mul (a := 2) (b := y)))]
    refine mw_go mu_g235 (k := 2) (f1 := (116, [(5, .inl (nI y)), (0, .inr (.inr (some 113))), (1, .inl (nI id)), (2, .inr (.inr (some gq))), (3, .inl (1 : Int32)), (4, .inl (nI (2 * hln fc st)))], [.inl ((nI (2 * y)) + (1 : Int32)), .inl (nI id), .inr (.inr (some 113)), .inl (nI (nmzU fc st (2 * y))), .inr (.inr (some gq))], Hsa)) (C := []) rfl trivial ?_
    rw [(show ((nI (2 * y)) + (1 : Int32)) = (nI ((2 * y) + 1)) from (nI_add (2 * y) 1))]
    refine mw_cIe (fun _ => rfl) (show mu_is Hsa (some 113) 11 from (ua.1.1.is rfl)) (st_num (d := (d + 1)) (p := (2 * y) + 1) ua da (hs.g zza rfl hka hgl.n114) (by omega) (by omega)) ?_
    have kn7 : nmzU fc st ((2 * y) + 1) < 16384 := hS _ ((hm3.2 _).mpr ⟨y, by omega, hm2 y (by omega), Nat.le_refl _⟩)
    refine mw_cV (fun _ => rfl) trivial (st_layN (d := d) (C := C) (a := nmzU fc st (2 * y)) (b := nmzU fc st ((2 * y) + 1)) ua da hlg (hm2 y (by omega)) (by omega)) (fun Q8 q8 => ?_)
    obtain ⟨u8, r8, z8, gkn, gln, hy⟩ := q8
    have ht8 : ur m C H Q8 := hta.trans r8
    obtain ⟨V8, d8⟩ : ∃ V, ud m Q8 = V := ⟨_, rfl⟩
    rw [d8] at z8 gkn gln hy
    refine mw_go mu_g235 (k := 1) (f1 := (125, [(5, .inl ((nI y) + 1)), (0, .inr (.inr (some 113))), (1, .inl (nI id)), (2, .inr (.inr (some gq))), (3, .inl (1 : Int32)), (4, .inl (nI (2 * hln fc st)))], [], Q8)) (C := []) rfl trivial ?_
    rw [(show ((nI y) + 1) = (nI (y + 1)) from (nI_add y 1))]
    refine mw_go mu_g235 (k := 1) (f1 := (61, [(5, .inl (nI (y + 1))), (0, .inr (.inr (some 113))), (1, .inl (nI id)), (2, .inr (.inr (some gq))), (3, .inl (1 : Int32)), (4, .inl (nI (2 * hln fc st)))], [], Q8)) (C := []) rfl trivial ?_
    exact mw_sub (by simp) (iha (y + 1, Q8) ⟨u8, ht8, (show uq F235n U (ud m Q8) from by rw [d8]; exact (zza.tr z8 rfl)), (show (y + 1) ≤ 2 * hln fc st from (by omega)), (show LSN (ud m Q8) ga gi gq 256 from by rw [d8]; exact gln), (show GKP ga gi U (ud m Q8) from by rw [d8]; exact (hka.trans gkn)), (show lyd fc st 2 (y + 1) (lgf U ga gi) (lgf (ud m Q8) ga gi) from by rw [d8]; exact (lyd_2 hB hy))⟩ (by show 2 * hln fc st - (y + 1) < 2 * hln fc st - y; omega))
  · -- 128: not (nI y) < (nI (2 * hln fc st))
    have nh4 : ¬ y < (2 * hln fc st) := fun z => h4 (show nI y < nI (2 * hln fc st) from (nI_ltI (by omega) (by omega)).mpr z)
    exact mw_of (fun _ => mu_ret rfl trivial ⟨Hsa, rfl, ua, hta, (by rw [da]; exact zza.mono rfl), (by rw [da]; exact hka), (by rw [da]; exact hlg), (by rw [da]; exact fun t _ => lyd_e (n := y) hB (by rw [show y = 2 * hln fc st by omega]; exact hm3) t)⟩)

theorem st_unpN2 (h : um m H) (e : ud m H = U) (hs : sat U id st fc) (hgl : LSN U ga gi gq 256) (hz : stz fc st S) (hS : ∀ x, S x = true → x < 16384) (hf : hfm fc st = 2) : mu_TV (mu_D (d + 3)) 235 [.inr (.inr (some 113)), .inl (nI id), .inr (.inr (some gq))] H (fun H1 => um m H1 ∧ ur m C H H1 ∧ uq FLS U (ud m H1) ∧ GKP ga gi U (ud m H1) ∧ LSN (ud m H1) ga gi gq 256 ∧ ∀ t, (hfm fc st = 2 → t / 64 < hln fc st → bts (lgf U ga gi) t = false) → (bts (lgf (ud m H1) ga gi) t = true ↔ bts (lgf U ga gi) t = true ∨ S t = true)) := by
  obtain ⟨⟨hi1, hi2⟩, hst, hst2, hch⟩ := (show sat U id st fc from hs)
  obtain ⟨hz1, hz2, hz3, hz4, hz5⟩ := hz
  have hm3 := hz5 hf
  refine mu_meth (M := mu_m235) rfl rfl ?_
  refine mw_ht (mu_fn_of (show [0, 1, 2].Nodup by decide)) ?_
  refine mw_go mu_g235 (k := 2) (f1 := (2, [(0, .inr (.inr (some 113))), (1, .inl (nI id)), (2, .inr (.inr (some gq)))], [.inl (nI id), .inr (.inr (some 113))], H)) (C := []) rfl trivial ?_
  refine mw_cIe (fun _ => rfl) (show mu_is H (some 113) 11 from (h.1.1.is rfl)) (st_form (d := (d + 1)) h e hs) ?_
  rw [show nI (hfm fc st) = (2 : Int32) from congrArg nI hf]
  refine mw_go mu_g235 (k := 3) (f1 := (8, [(3, .inl (2 : Int32)), (0, .inr (.inr (some 113))), (1, .inl (nI id)), (2, .inr (.inr (some gq)))], [.inl (nI id), .inr (.inr (some 113))], H)) (C := []) rfl trivial ?_
  refine mw_cIe (fun _ => rfl) (show mu_is H (some 113) 11 from (h.1.1.is rfl)) (st_parts (d := (d + 1)) h e hs) ?_
  rw [show nI (hpt fc st) = nI (hln fc st) from congrArg nI (by unfold hpt; rw [hf]; rfl)]
  have kl := hln_lt (fc := fc) (st := st)
  have kz := hsz_lt (fc := fc) (st := st)
  refine mw_go mu_g235 (k := 3) (f1 := (15, [(4, .inl (nI (hln fc st))), (3, .inl (2 : Int32)), (0, .inr (.inr (some 113))), (1, .inl (nI id)), (2, .inr (.inr (some gq)))], [.inl (2 : Int32), .inl (2 : Int32)], H)) (C := []) rfl trivial ?_
  refine mw_if (P := (2 : Int32) = (2 : Int32)) (a := 18) (b := 58) (fun _ => rfl) trivial (fun h3 => ?_) (fun h3 => absurd (by decide) h3)
  refine mw_go mu_g235 (k := 2) (f1 := (22, [(4, .inl (nI (hln fc st))), (3, .inl (2 : Int32)), (0, .inr (.inr (some 113))), (1, .inl (nI id)), (2, .inr (.inr (some gq)))], [.inr (.inr (mu_r H 113 0))], H)) (C := [mu_is H (some 113) 11]) rfl (show mu_is H (some 113) 11 from (h.1.1.is rfl)) ?_
  rw [(h.1.1.r (p := 113) (j := 0) (q := 114) rfl)]
  refine mw_go mu_g235 (k := 2) (f1 := (26, [(4, .inl (nI (hln fc st))), (3, .inl (2 : Int32)), (0, .inr (.inr (some 113))), (1, .inl (nI id)), (2, .inr (.inr (some gq)))], [.inr (.inr (mu_r H 113 3)), .inr (.inr (some 114))], H)) (C := [mu_is H (some 113) 11]) rfl (show mu_is H (some 113) 11 from (h.1.1.is rfl)) ?_
  rw [(show mu_r H 113 3 = (U.2.2.2.1 113 3) from (ud_q (U := U) (m := m) (P := 113) (j := 3) e rfl))]
  refine mw_go mu_g235 (k := 2) (f1 := (28, [(4, .inl (nI (hln fc st))), (3, .inl (2 : Int32)), (0, .inr (.inr (some 113))), (1, .inl (nI id)), (2, .inr (.inr (some gq)))], [.inl (mu_i H (mu_p (U.2.2.2.1 113 3)) (nI id).toNatClampNeg), .inr (.inr (some 114))], H)) (C := [mu_isr H (U.2.2.2.1 113 3) 100, vp_in (nI id) (mu_n H (mu_p (U.2.2.2.1 113 3)))]) rfl (show (mu_isr H (U.2.2.2.1 113 3) 100) ∧ (vp_in (nI id) (mu_n H (mu_p (U.2.2.2.1 113 3)))) from ⟨((h.iA e rfl rfl (show U.2.2.2.1 113 3 = (U.2.2.2.1 113 3) from rfl))).r, (h.vA (i := id) e rfl rfl (show U.2.2.2.1 113 3 = (U.2.2.2.1 113 3) from rfl) (show (U.2.2.1 113 3).1 = (U.2.2.1 113 3).1 from rfl) (by omega) (by omega))⟩) ?_
  rw [(show (mu_i H (mu_p (U.2.2.2.1 113 3)) (nI id).toNatClampNeg) = (nI st) from ((congrArg (mu_i H (mu_p (U.2.2.2.1 113 3))) (show (nI id).toNatClampNeg = id from nI_clamp (by omega))).trans (h.gA e rfl rfl (show U.2.2.2.1 113 3 = (U.2.2.2.1 113 3) from rfl))).trans ((congrArg (fun z => z.2 id) (show U.2.2.1 113 3 = (U.2.2.1 113 3) from rfl)).trans hst))]
  refine mw_go mu_g235 (k := 2) (f1 := (32, [(4, .inl (nI (hln fc st))), (3, .inl (2 : Int32)), (0, .inr (.inr (some 113))), (1, .inl (nI id)), (2, .inr (.inr (some gq)))], [.inl ((nI st) / (8192 : Int32)), .inr (.inr (some 114))], H)) (C := [¬ (8192 : Int32) = 0]) rfl (show ¬ (8192 : Int32) = 0 from (by decide)) ?_
  rw [(show ((nI st) / (8192 : Int32)) = (nI (st / 8192)) from (nI_div (a := st) (b := 8192) (by omega) (by omega)))]
  obtain ⟨cq4, ka4, kb4, kc4, kd4⟩ := um.gP h e (plp114 (show st / 8192 < 184 by omega)) (show U.2.2.2.2.2 114 (st / 8192) = some (8192, fc) from hch)
  refine mw_go mu_g235 (k := 1) (f1 := (33, [(4, .inl (nI (hln fc st))), (3, .inl (2 : Int32)), (0, .inr (.inr (some 113))), (1, .inl (nI id)), (2, .inr (.inr (some gq)))], [.inr (.inr (mu_r H 114 (nI (st / 8192)).toNatClampNeg))], H)) (C := [mu_is H (some 114) (mu_k H 114), 103 ≤ mu_k H 114 ∧ mu_k H 114 ≤ 110 ∧ mu_k H 114 ≠ 108, vp_in (nI (st / 8192)) (mu_n H 114)]) rfl (show (mu_is H (some 114) (mu_k H 114)) ∧ (103 ≤ mu_k H 114 ∧ mu_k H 114 ≤ 110 ∧ mu_k H 114 ≠ 108) ∧ (vp_in (nI (st / 8192)) (mu_n H 114)) from ⟨(by have z := (h.1.1.a (p := 114) (x := (104, 184)) rfl).1; rw [show mu_k H 114 = 104 from z.2.2]; exact z), (by have z := (h.1.1.a (p := 114) (x := (104, 184)) rfl).1; rw [show mu_k H 114 = 104 from z.2.2]; decide), (by rw [show mu_n H 114 = 184 from (h.1.1.a (p := 114) (x := (104, 184)) rfl).2]; exact vp_in_nI (n := st / 8192) (by omega) (by decide))⟩) ?_
  rw [(show (mu_r H 114 (nI (st / 8192)).toNatClampNeg) = some cq4 from (congrArg (mu_r H 114) (show (nI (st / 8192)).toNatClampNeg = st / 8192 from nI_clamp (by omega))).trans ka4)]
  refine mw_go mu_g235 (k := 2) (f1 := (37, [(4, .inl (nI (hln fc st))), (3, .inl (2 : Int32)), (0, .inr (.inr (some 113))), (1, .inl (nI id)), (2, .inr (.inr (some gq)))], [.inr (.inr (mu_r H 113 3)), .inr (.inr (some cq4))], H)) (C := [mu_is H (some 113) 11]) rfl (show mu_is H (some 113) 11 from (h.1.1.is rfl)) ?_
  rw [(show mu_r H 113 3 = (U.2.2.2.1 113 3) from (ud_q (U := U) (m := m) (P := 113) (j := 3) e rfl))]
  refine mw_go mu_g235 (k := 2) (f1 := (39, [(4, .inl (nI (hln fc st))), (3, .inl (2 : Int32)), (0, .inr (.inr (some 113))), (1, .inl (nI id)), (2, .inr (.inr (some gq)))], [.inl (mu_i H (mu_p (U.2.2.2.1 113 3)) (nI id).toNatClampNeg), .inr (.inr (some cq4))], H)) (C := [mu_isr H (U.2.2.2.1 113 3) 100, vp_in (nI id) (mu_n H (mu_p (U.2.2.2.1 113 3)))]) rfl (show (mu_isr H (U.2.2.2.1 113 3) 100) ∧ (vp_in (nI id) (mu_n H (mu_p (U.2.2.2.1 113 3)))) from ⟨((h.iA e rfl rfl (show U.2.2.2.1 113 3 = (U.2.2.2.1 113 3) from rfl))).r, (h.vA (i := id) e rfl rfl (show U.2.2.2.1 113 3 = (U.2.2.2.1 113 3) from rfl) (show (U.2.2.1 113 3).1 = (U.2.2.1 113 3).1 from rfl) (by omega) (by omega))⟩) ?_
  rw [(show (mu_i H (mu_p (U.2.2.2.1 113 3)) (nI id).toNatClampNeg) = (nI st) from ((congrArg (mu_i H (mu_p (U.2.2.2.1 113 3))) (show (nI id).toNatClampNeg = id from nI_clamp (by omega))).trans (h.gA e rfl rfl (show U.2.2.2.1 113 3 = (U.2.2.2.1 113 3) from rfl))).trans ((congrArg (fun z => z.2 id) (show U.2.2.1 113 3 = (U.2.2.1 113 3) from rfl)).trans hst))]
  refine mw_go mu_g235 (k := 2) (f1 := (43, [(4, .inl (nI (hln fc st))), (3, .inl (2 : Int32)), (0, .inr (.inr (some 113))), (1, .inl (nI id)), (2, .inr (.inr (some gq)))], [.inl ((nI st) - (nI st) / (8192 : Int32) * (8192 : Int32)), .inr (.inr (some cq4))], H)) (C := [¬ (8192 : Int32) = 0]) rfl (show ¬ (8192 : Int32) = 0 from (by decide)) ?_
  rw [(show ((nI st) - (nI st) / (8192 : Int32) * (8192 : Int32)) = (nI (st % 8192)) from (nI_mod (a := st) (b := 8192) (by omega) (by omega)))]
  refine mw_go mu_g235 (k := 2) (f1 := (45, [(4, .inl (nI (hln fc st))), (3, .inl (2 : Int32)), (0, .inr (.inr (some 113))), (1, .inl (nI id)), (2, .inr (.inr (some gq)))], [.inl ((nI (st % 8192)) + (1 : Int32)), .inr (.inr (some cq4))], H)) (C := []) rfl trivial ?_
  rw [(show ((nI (st % 8192)) + (1 : Int32)) = (nI ((st % 8192) + 1)) from (nI_add (st % 8192) 1))]
  refine mw_go mu_g235 (k := 3) (f1 := (48, [(4, .inl (nI (hln fc st))), (3, .inl (2 : Int32)), (0, .inr (.inr (some 113))), (1, .inl (nI id)), (2, .inr (.inr (some gq)))], [.inr (.inr (some gq)), .inl (0 : Int32), .inr (.inr (some gq)), .inl (nI ((st % 8192) + 1)), .inr (.inr (some cq4))], H)) (C := []) rfl trivial ?_
  obtain ⟨kb5, kc5, -⟩ := LSN.read h e (show LSN U ga gi gq 256 from hgl)
  refine mw_go mu_g235 (k := 1) (f1 := (49, [(4, .inl (nI (hln fc st))), (3, .inl (2 : Int32)), (0, .inr (.inr (some 113))), (1, .inl (nI id)), (2, .inr (.inr (some gq)))], [.inl (Int32.ofNat (mu_n H gq)), .inl (0 : Int32), .inr (.inr (some gq)), .inl (nI ((st % 8192) + 1)), .inr (.inr (some cq4))], H)) (C := [mu_isr H (some gq) (mu_k H gq), 100 ≤ mu_k H gq]) rfl (show (mu_isr H (some gq) (mu_k H gq)) ∧ (100 ≤ mu_k H gq) from ⟨(by rw [show mu_k H gq = 102 from kb5.2.2]; exact kb5.r), (by rw [show mu_k H gq = 102 from kb5.2.2]; decide)⟩) ?_
  rw [show (Int32.ofNat (mu_n H gq)) = nI 256 from congrArg Int32.ofNat (show mu_n H gq = 256 from kc5)]
  refine mw_go mu_g235 (k := 1) (f1 := (51, [(4, .inl (nI (hln fc st))), (3, .inl (2 : Int32)), (0, .inr (.inr (some 113))), (1, .inl (nI id)), (2, .inr (.inr (some gq)))], [.inl (nI (hln fc st)), .inl (nI 256), .inl (0 : Int32), .inr (.inr (some gq)), .inl (nI ((st % 8192) + 1)), .inr (.inr (some cq4))], H)) (C := []) rfl trivial ?_
  refine mw_cIe (fun _ => rfl) trivial (mu_min_ok (d := (d + 1)) (nI 256) (nI (hln fc st))) ?_
  rw [show (mu_min (nI 256) (nI (hln fc st))) = nI (min 256 (hln fc st)) from mu_min_n (a := 256) (b := hln fc st) (by omega) (by omega)]
  obtain ⟨kb7, kc7, -⟩ := LSN.read h e (show LSN U ga gi gq 256 from hgl)
  refine mw_copyL rfl (show mu_is H (some cq4) 102 from kb4) (show mu_is H (some gq) 102 from kb7) (nI_pos (by omega)) (by decide) (nI_pos (by omega)) (by rw [show mu_n H (mu_p (some cq4)) = 8192 from kc4, (show (nI ((st % 8192) + 1)).toNatClampNeg = (st % 8192) + 1 from nI_clamp (by omega)), (show (nI (min 256 (hln fc st))).toNatClampNeg = min 256 (hln fc st) from nI_clamp (by omega))]; omega) (by rw [show mu_n H (mu_p (some gq)) = 256 from kc7, (show (0 : Int32).toNatClampNeg = 0 from by decide), (show (nI (min 256 (hln fc st))).toNatClampNeg = min 256 (hln fc st) from nI_clamp (by omega))]; omega) (by decide) ?_
  rw [(show (nI ((st % 8192) + 1)).toNatClampNeg = (st % 8192) + 1 from nI_clamp (by omega)), (show (0 : Int32).toNatClampNeg = 0 from by decide), (show (nI (min 256 (hln fc st))).toNatClampNeg = min 256 (hln fc st) from nI_clamp (by omega))]
  show mu_W _ _ (57, [(4, .inl (nI (hln fc st))), (3, .inl (2 : Int32)), (0, .inr (.inr (some 113))), (1, .inl (nI id)), (2, .inr (.inr (some gq)))], [], (ml_fill H gq 0 (fun i => mu_l H cq4 (((st % 8192) + 1) + i)) (min 256 (hln fc st)))) _
  obtain ⟨u7, r7, z7, gk7, gl7, gf7⟩ := LSN.fill (C := C) (b := 0) (n := min 256 (hln fc st)) (g := fun i => mu_l H cq4 (((st % 8192) + 1) + i)) h e (show LSN U ga gi gq 256 from hgl)
  have gf7 := fun j => (gf7 j).trans (show _ = (if 0 ≤ j ∧ j < 0 + (min 256 (hln fc st)) then fc (((st % 8192) + 1) + (j - 0)) else lgf U ga gi j) from by rw [kd4])
  generalize (ml_fill H gq 0 (fun i => mu_l H cq4 (((st % 8192) + 1) + i)) (min 256 (hln fc st))) = Q7 at u7 r7 z7 gk7 gl7 gf7 ⊢
  obtain ⟨V7, d7⟩ : ∃ V, ud m Q7 = V := ⟨_, rfl⟩
  rw [d7] at z7 gk7 gl7 gf7
  have ht7 : ur m C H Q7 := (ur.refl m C H).trans r7
  exact mw_of (fun _ => mu_ret rfl trivial ⟨Q7, rfl, u7, ht7, (by rw [d7]; exact z7), (by rw [d7]; exact gk7), (by rw [d7]; exact gl7), (by rw [d7]; exact fun t hc => unp_2N hm3 hS gf7 t (hc hf))⟩)
theorem st_unpN (h : um m H) (e : ud m H = U) (hs : sat U id st fc) (hgl : LSN U ga gi gq 256) (hz : stz fc st S) (hS : ∀ x, S x = true → x < 16384) : mu_TV (mu_D (d + 3)) 235 [.inr (.inr (some 113)), .inl (nI id), .inr (.inr (some gq))] H (fun H1 => um m H1 ∧ ur m C H H1 ∧ uq FLS U (ud m H1) ∧ GKP ga gi U (ud m H1) ∧ LSN (ud m H1) ga gi gq 256 ∧ ∀ t, (hfm fc st = 2 → t / 64 < hln fc st → bts (lgf U ga gi) t = false) → (bts (lgf (ud m H1) ga gi) t = true ↔ bts (lgf U ga gi) t = true ∨ S t = true)) := by
  have kf := hz.1
  by_cases f0 : hfm fc st = 0
  · exact st_unpN0 h e hs hgl hz hS f0
  · by_cases f1 : hfm fc st = 1
    · exact st_unpN1 h e hs hgl hz hS f1
    · exact st_unpN2 h e hs hgl hz hS (by omega)
end UnpackName
