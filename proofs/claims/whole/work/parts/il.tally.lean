/-! PROVER: STATES are counted -/
/-- how many STATES a row has -/
def SZR (U : Ud) (fb r n : Nat) : Prop := (∃ st fc, sat U (fb + r) st fc ∧ hsz fc st = n) ∨ sab U (fb + r) n
section Tally
variable {H : mu_H} {U V : Ud} {m d n k r T sp gq L fb q N us nf nw nb P : Nat} {C : Nat → Nat} {B : Nat → Bool} {zz rx : Nat → Nat}
theorem rl_sizeZ (h : um m H) (e : ud m H = U) (hF : U.2.1 113 8 = nI fb) (hz : SZR U fb r n) : mu_TI (mu_D (d + 2)) 287 [.inr (.inr (some 129)), .inl (nI r)] H (fun x H1 => x = nI n ∧ H1 = H) := by
  rcases hz with ⟨st, fc, hs, rfl⟩ | hs
  · exact rl_size h e hF rfl hs
  · exact rl_sizeA h e hF rfl hs
/-- PathProver$Prover.followers(I)I -/
abbrev mu_m361 : ev_M := (2, (some .int), [], ev_b361)
theorem mu_g361 : mu_good mu_m361 := mu_goodk ev_k361
theorem pr_followers (h : um m H) (e : ud m H = U) (hs : k < (U.2.2.1 129 6).1) (hb : (U.2.2.1 129 6).1 ≤ 16777216) (hrow : (U.2.2.1 129 6).2 k = nI r) (hF : U.2.1 113 8 = nI fb) (hz : SZR U fb r n) : mu_TI (mu_D (d + 3)) 361 [.inr (.inr (some 158)), .inl (nI k)] H (fun x H1 => x = nI n ∧ H1 = H) := by
  refine mu_meth (M := mu_m361) rfl rfl ?_
  refine mw_ht (mu_fn_of (show [0, 1].Nodup by decide)) ?_
  refine mw_go mu_g361 (k := 2) (f1 := (4, [(0, .inr (.inr (some 158))), (1, .inl (nI k))], [.inr (.inr (mu_r H 158 1))], H)) (C := [mu_is H (some 158) 8]) rfl (show mu_is H (some 158) 8 from (h.1.1.is rfl)) ?_
  rw [(h.1.1.r (p := 158) (j := 1) (q := 147) rfl)]
  refine mw_go mu_g361 (k := 1) (f1 := (7, [(0, .inr (.inr (some 158))), (1, .inl (nI k))], [.inr (.inr (mu_r H 147 1))], H)) (C := [mu_is H (some 147) 2]) rfl (show mu_is H (some 147) 2 from (h.1.1.is rfl)) ?_
  rw [(h.1.1.r (p := 147) (j := 1) (q := 129) rfl)]
  refine mw_go mu_g361 (k := 2) (f1 := (11, [(0, .inr (.inr (some 158))), (1, .inl (nI k))], [.inr (.inr (mu_r H 158 1)), .inr (.inr (some 129))], H)) (C := [mu_is H (some 158) 8]) rfl (show mu_is H (some 158) 8 from (h.1.1.is rfl)) ?_
  rw [(h.1.1.r (p := 158) (j := 1) (q := 147) rfl)]
  refine mw_go mu_g361 (k := 1) (f1 := (14, [(0, .inr (.inr (some 158))), (1, .inl (nI k))], [.inr (.inr (mu_r H 147 1)), .inr (.inr (some 129))], H)) (C := [mu_is H (some 147) 2]) rfl (show mu_is H (some 147) 2 from (h.1.1.is rfl)) ?_
  rw [(h.1.1.r (p := 147) (j := 1) (q := 129) rfl)]
  refine mw_go mu_g361 (k := 1) (f1 := (17, [(0, .inr (.inr (some 158))), (1, .inl (nI k))], [.inr (.inr (mu_r H 129 6)), .inr (.inr (some 129))], H)) (C := [mu_is H (some 129) 9]) rfl (show mu_is H (some 129) 9 from (h.1.1.is rfl)) ?_
  rw [(show mu_r H 129 6 = (U.2.2.2.1 129 6) from (ud_q (U := U) (m := m) (P := 129) (j := 6) e rfl))]
  refine mw_go mu_g361 (k := 2) (f1 := (19, [(0, .inr (.inr (some 158))), (1, .inl (nI k))], [.inl (mu_i H (mu_p (U.2.2.2.1 129 6)) (nI k).toNatClampNeg), .inr (.inr (some 129))], H)) (C := [mu_isr H (U.2.2.2.1 129 6) 100, vp_in (nI k) (mu_n H (mu_p (U.2.2.2.1 129 6)))]) rfl (show (mu_isr H (U.2.2.2.1 129 6) 100) ∧ (vp_in (nI k) (mu_n H (mu_p (U.2.2.2.1 129 6)))) from ⟨((h.iA e rfl rfl (show U.2.2.2.1 129 6 = (U.2.2.2.1 129 6) from rfl))).r, (h.vA (i := k) e rfl rfl (show U.2.2.2.1 129 6 = (U.2.2.2.1 129 6) from rfl) (show (U.2.2.1 129 6).1 = (U.2.2.1 129 6).1 from rfl) (by omega) (by omega))⟩) ?_
  rw [(show (mu_i H (mu_p (U.2.2.2.1 129 6)) (nI k).toNatClampNeg) = (nI r) from ((congrArg (mu_i H (mu_p (U.2.2.2.1 129 6))) (show (nI k).toNatClampNeg = k from nI_clamp (by omega))).trans (h.gA e rfl rfl (show U.2.2.2.1 129 6 = (U.2.2.2.1 129 6) from rfl))).trans ((congrArg (fun z => z.2 k) (show U.2.2.1 129 6 = (U.2.2.1 129 6) from rfl)).trans hrow))]
  refine mw_cIe (fun _ => rfl) (show mu_is H (some 129) 9 from (h.1.1.is rfl)) (rl_sizeZ (d := d) (r := r) (n := n) h e hF hz) ?_
  exact mw_of (fun _ => mu_ret rfl trivial ⟨(nI n), H, rfl, rfl, rfl⟩)
/-- PathProver$Prover.tally(II)I -/
abbrev mu_m372 : ev_M := (6, (some .int), [], ev_b372)
theorem mu_g372 : mu_good mu_m372 := mu_goodk ev_k372
theorem pr_tally0 (h : um m H) (e : ud m H = U) (hT : U.2.1 99 11 = nI T) (hTb : T ≤ 16384) (hB : ∀ s, s < T → (B s = true ↔ bts (U.2.2.2.2.1 124) s = true)) : mu_TI (mu_D (d + 4)) 372 [.inr (.inr (some 158)), .inl (0 : Int32), .inl (nI sp)] H (fun x H1 => x = nI (cnb B T) ∧ H1 = H) := by
  refine mu_meth (M := mu_m372) rfl rfl ?_
  refine mw_ht (mu_fn_of (show [0, 1, 2].Nodup by decide)) ?_
  refine mw_go mu_g372 (k := 1) (f1 := (1, [(0, .inr (.inr (some 158))), (1, .inl (0 : Int32)), (2, .inl (nI sp))], [.inl (0 : Int32)], H)) (C := []) rfl trivial ?_
  refine mw_if (P := (0 : Int32) = 0) (a := 4) (b := 14) (fun _ => rfl) trivial (fun h1 => ?_) (fun h1 => absurd rfl h1)
  refine mw_go mu_g372 (k := 2) (f1 := (8, [(0, .inr (.inr (some 158))), (1, .inl (0 : Int32)), (2, .inl (nI sp))], [.inr (.inr (mu_r H 158 0))], H)) (C := [mu_is H (some 158) 8]) rfl (show mu_is H (some 158) 8 from (h.1.1.is rfl)) ?_
  rw [(h.1.1.r (p := 158) (j := 0) (q := 99) rfl)]
  refine mw_go mu_g372 (k := 1) (f1 := (11, [(0, .inr (.inr (some 158))), (1, .inl (0 : Int32)), (2, .inl (nI sp))], [.inr (.inr (mu_r H 99 14))], H)) (C := [mu_is H (some 99) 13]) rfl (show mu_is H (some 99) 13 from (h.1.1.is rfl)) ?_
  rw [(h.1.1.r (p := 99) (j := 14) (q := 124) rfl)]
  refine mw_go mu_g372 (k := 6) (f1 := (60, [(5, .inl (0 : Int32)), (4, .inl (0 : Int32)), (3, .inr (.inr (some 124))), (0, .inr (.inr (some 158))), (1, .inl (0 : Int32)), (2, .inl (nI sp))], [], H)) (C := []) rfl trivial ?_
  show mu_W _ _ (60, [(5, .inl (nI 0)), (4, .inl (nI (cnb B 0))), (3, .inr (.inr (some 124))), (0, .inr (.inr (some 158))), (1, .inl (0 : Int32)), (2, .inl (nI sp))], [], H) _
  refine mw_sub (L' := [(5, .inl (nI 0)), (4, .inl (nI (cnb B 0))), (0, .inr (.inr (some 158))), (1, .inl (0 : Int32)), (2, .inl (nI sp)), (3, .inr (.inr (some 124)))]) (by simp) ?_
  refine mw_down (α := Nat) (fun zs => (60, [(5, .inl (nI zs)), (4, .inl (nI (cnb B zs))), (0, .inr (.inr (some 158))), (1, .inl (0 : Int32)), (2, .inl (nI sp)), (3, .inr (.inr (some 124)))], [], H)) (fun zs => T - zs) (fun zs => (zs ≤ T)) (fun zs hza iha => ?_) 0 (show 0 ≤ T from (Nat.zero_le _))
  obtain ⟨x, rfl⟩ : ∃ y, y = zs := ⟨zs, rfl⟩
  have hxT := hza
  have hxT : x ≤ T := hxT
  show mu_W _ _ (60, [(5, .inl (nI x)), (4, .inl (nI (cnb B x))), (0, .inr (.inr (some 158))), (1, .inl (0 : Int32)), (2, .inl (nI sp)), (3, .inr (.inr (some 124)))], [], H) _
  refine mw_go mu_g372 (k := 3) (f1 := (66, [(5, .inl (nI x)), (4, .inl (nI (cnb B x))), (0, .inr (.inr (some 158))), (1, .inl (0 : Int32)), (2, .inl (nI sp)), (3, .inr (.inr (some 124)))], [.inr (.inr (mu_r H 158 0)), .inl (nI x)], H)) (C := [mu_is H (some 158) 8]) rfl (show mu_is H (some 158) 8 from (h.1.1.is rfl)) ?_
  rw [(h.1.1.r (p := 158) (j := 0) (q := 99) rfl)]
  refine mw_go mu_g372 (k := 1) (f1 := (69, [(5, .inl (nI x)), (4, .inl (nI (cnb B x))), (0, .inr (.inr (some 158))), (1, .inl (0 : Int32)), (2, .inl (nI sp)), (3, .inr (.inr (some 124)))], [.inl (mu_i H 99 11), .inl (nI x)], H)) (C := [mu_is H (some 99) 13]) rfl (show mu_is H (some 99) 13 from (h.1.1.is rfl)) ?_
  rw [(show mu_i H 99 11 = (nI T) from (ud_i (U := U) (m := m) (P := 99) (j := 11) e rfl).trans hT)]
  refine mw_if (P := (nI x) < (nI T)) (a := 72) (b := 124) (fun _ => rfl) trivial (fun h2 => ?_) (fun h2 => ?_)
  · -- 72: (nI x) < (nI T)
    have nh2 : x < T := (nI_ltI (by omega) (by omega)).mp (show nI x < nI T from h2)
    refine mw_go mu_g372 (k := 2) (f1 := (75, [(5, .inl (nI x)), (4, .inl (nI (cnb B x))), (0, .inr (.inr (some 158))), (1, .inl (0 : Int32)), (2, .inl (nI sp)), (3, .inr (.inr (some 124)))], [.inl (nI x), .inr (.inr (some 124))], H)) (C := []) rfl trivial ?_
    refine mw_cI (fun _ => rfl) trivial ((pv_has_124 (d := (d + 2)) (k := x) h e (by omega)).imp (fun _ _ z => has_alt (b := bts (U.2.2.2.2.1 124) x) z)) (fun x3 H3 q3 => ?_)
    rcases q3 with ⟨rfl, hb3, rfl⟩ | ⟨rfl, hb3, rfl⟩
    · -- (1 : Int32)
      have hbx : B x = true := (hB x (by omega)).mpr hb3
      refine mw_if (P := (1 : Int32) = 0) (a := 118) (b := 81) (fun _ => rfl) trivial (fun h4 => absurd h4 (by decide)) (fun h4 => ?_)
      refine mw_go mu_g372 (k := 2) (f1 := (83, [(5, .inl (nI x)), (4, .inl (nI (cnb B x))), (0, .inr (.inr (some 158))), (1, .inl (0 : Int32)), (2, .inl (nI sp)), (3, .inr (.inr (some 124)))], [.inl (3 : Int32), .inl (0 : Int32)], H)) (C := []) rfl trivial ?_
      refine mw_if (P := (0 : Int32) = (3 : Int32)) (a := 86) (b := 101) (fun _ => rfl) trivial (fun h5 => absurd h5 (by decide)) (fun h5 => ?_)
      refine mw_go mu_g372 (k := 2) (f1 := (103, [(5, .inl (nI x)), (4, .inl (nI (cnb B x))), (0, .inr (.inr (some 158))), (1, .inl (0 : Int32)), (2, .inl (nI sp)), (3, .inr (.inr (some 124)))], [.inl (4 : Int32), .inl (0 : Int32)], H)) (C := []) rfl trivial ?_
      refine mw_if (P := (0 : Int32) = (4 : Int32)) (a := 106) (b := 115) (fun _ => rfl) trivial (fun h6 => absurd h6 (by decide)) (fun h6 => ?_)
      refine mw_go mu_g372 (k := 1) (f1 := (118, [(4, .inl ((nI (cnb B x)) + 1)), (5, .inl (nI x)), (0, .inr (.inr (some 158))), (1, .inl (0 : Int32)), (2, .inl (nI sp)), (3, .inr (.inr (some 124)))], [], H)) (C := []) rfl trivial ?_
      rw [(show ((nI (cnb B x)) + 1) = (nI ((cnb B x) + 1)) from (nI_add (cnb B x) 1))]
      rw [show (nI ((cnb B x) + 1)) = (nI (cnb B (x + 1))) from congrArg nI (by rw [cnb_yes hbx])]
      refine mw_go mu_g372 (k := 1) (f1 := (121, [(5, .inl ((nI x) + 1)), (4, .inl (nI (cnb B (x + 1)))), (0, .inr (.inr (some 158))), (1, .inl (0 : Int32)), (2, .inl (nI sp)), (3, .inr (.inr (some 124)))], [], H)) (C := []) rfl trivial ?_
      rw [(show ((nI x) + 1) = (nI (x + 1)) from (nI_add x 1))]
      refine mw_go mu_g372 (k := 1) (f1 := (60, [(5, .inl (nI (x + 1))), (4, .inl (nI (cnb B (x + 1)))), (0, .inr (.inr (some 158))), (1, .inl (0 : Int32)), (2, .inl (nI sp)), (3, .inr (.inr (some 124)))], [], H)) (C := []) rfl trivial ?_
      exact mw_sub (by simp) (iha (x + 1) (show (x + 1) ≤ T from (by omega)) (by show T - (x + 1) < T - x; omega))
    · -- (0 : Int32)
      have hbx : ¬ B x = true := fun y => by have z := (hB x (by omega)).mp y; rw [hb3] at z; cases z
      refine mw_if (P := (0 : Int32) = 0) (a := 118) (b := 81) (fun _ => rfl) trivial (fun h7 => ?_) (fun h7 => absurd (by decide) h7)
      rw [show (nI (cnb B x)) = (nI (cnb B (x + 1))) from congrArg nI (by rw [cnb_no hbx])]
      refine mw_go mu_g372 (k := 1) (f1 := (121, [(5, .inl ((nI x) + 1)), (4, .inl (nI (cnb B (x + 1)))), (0, .inr (.inr (some 158))), (1, .inl (0 : Int32)), (2, .inl (nI sp)), (3, .inr (.inr (some 124)))], [], H)) (C := []) rfl trivial ?_
      rw [(show ((nI x) + 1) = (nI (x + 1)) from (nI_add x 1))]
      refine mw_go mu_g372 (k := 1) (f1 := (60, [(5, .inl (nI (x + 1))), (4, .inl (nI (cnb B (x + 1)))), (0, .inr (.inr (some 158))), (1, .inl (0 : Int32)), (2, .inl (nI sp)), (3, .inr (.inr (some 124)))], [], H)) (C := []) rfl trivial ?_
      exact mw_sub (by simp) (iha (x + 1) (show (x + 1) ≤ T from (by omega)) (by show T - (x + 1) < T - x; omega))
  · -- 124: not (nI x) < (nI T)
    have nh2 : ¬ x < T := fun z => h2 (show nI x < nI T from (nI_ltI (by omega) (by omega)).mpr z)
    refine mw_go mu_g372 (k := 1) (f1 := (126, [(5, .inl (nI x)), (4, .inl (nI (cnb B x))), (0, .inr (.inr (some 158))), (1, .inl (0 : Int32)), (2, .inl (nI sp)), (3, .inr (.inr (some 124)))], [.inl (nI (cnb B x))], H)) (C := []) rfl trivial ?_
    exact mw_of (fun _ => mu_ret rfl trivial ⟨(nI (cnb B x)), H, rfl, congrArg (fun z => nI (cnb B z)) (show x = T by omega), rfl⟩)
theorem pr_tally1 (h : um m H) (e : ud m H = U) (hT : U.2.1 99 11 = nI T) (hTb : T ≤ 16384) (hB : ∀ s, s < T → (B s = true ↔ bts (U.2.2.2.2.1 125) s = true)) : mu_TI (mu_D (d + 4)) 372 [.inr (.inr (some 158)), .inl (1 : Int32), .inl (nI sp)] H (fun x H1 => x = nI (cnb B T) ∧ H1 = H) := by
  refine mu_meth (M := mu_m372) rfl rfl ?_
  refine mw_ht (mu_fn_of (show [0, 1, 2].Nodup by decide)) ?_
  refine mw_go mu_g372 (k := 1) (f1 := (1, [(0, .inr (.inr (some 158))), (1, .inl (1 : Int32)), (2, .inl (nI sp))], [.inl (1 : Int32)], H)) (C := []) rfl trivial ?_
  refine mw_if (P := (1 : Int32) = 0) (a := 4) (b := 14) (fun _ => rfl) trivial (fun h1 => absurd h1 (by decide)) (fun h1 => ?_)
  refine mw_go mu_g372 (k := 2) (f1 := (16, [(0, .inr (.inr (some 158))), (1, .inl (1 : Int32)), (2, .inl (nI sp))], [.inl (1 : Int32), .inl (1 : Int32)], H)) (C := []) rfl trivial ?_
  refine mw_if (P := (1 : Int32) = (1 : Int32)) (a := 19) (b := 29) (fun _ => rfl) trivial (fun h2 => ?_) (fun h2 => absurd rfl h2)
  refine mw_go mu_g372 (k := 2) (f1 := (23, [(0, .inr (.inr (some 158))), (1, .inl (1 : Int32)), (2, .inl (nI sp))], [.inr (.inr (mu_r H 158 0))], H)) (C := [mu_is H (some 158) 8]) rfl (show mu_is H (some 158) 8 from (h.1.1.is rfl)) ?_
  rw [(h.1.1.r (p := 158) (j := 0) (q := 99) rfl)]
  refine mw_go mu_g372 (k := 1) (f1 := (26, [(0, .inr (.inr (some 158))), (1, .inl (1 : Int32)), (2, .inl (nI sp))], [.inr (.inr (mu_r H 99 15))], H)) (C := [mu_is H (some 99) 13]) rfl (show mu_is H (some 99) 13 from (h.1.1.is rfl)) ?_
  rw [(h.1.1.r (p := 99) (j := 15) (q := 125) rfl)]
  refine mw_go mu_g372 (k := 6) (f1 := (60, [(5, .inl (0 : Int32)), (4, .inl (0 : Int32)), (3, .inr (.inr (some 125))), (0, .inr (.inr (some 158))), (1, .inl (1 : Int32)), (2, .inl (nI sp))], [], H)) (C := []) rfl trivial ?_
  show mu_W _ _ (60, [(5, .inl (nI 0)), (4, .inl (nI (cnb B 0))), (3, .inr (.inr (some 125))), (0, .inr (.inr (some 158))), (1, .inl (1 : Int32)), (2, .inl (nI sp))], [], H) _
  refine mw_sub (L' := [(5, .inl (nI 0)), (4, .inl (nI (cnb B 0))), (0, .inr (.inr (some 158))), (1, .inl (1 : Int32)), (2, .inl (nI sp)), (3, .inr (.inr (some 125)))]) (by simp) ?_
  refine mw_down (α := Nat) (fun zs => (60, [(5, .inl (nI zs)), (4, .inl (nI (cnb B zs))), (0, .inr (.inr (some 158))), (1, .inl (1 : Int32)), (2, .inl (nI sp)), (3, .inr (.inr (some 125)))], [], H)) (fun zs => T - zs) (fun zs => (zs ≤ T)) (fun zs hza iha => ?_) 0 (show 0 ≤ T from (Nat.zero_le _))
  obtain ⟨x, rfl⟩ : ∃ y, y = zs := ⟨zs, rfl⟩
  have hxT := hza
  have hxT : x ≤ T := hxT
  show mu_W _ _ (60, [(5, .inl (nI x)), (4, .inl (nI (cnb B x))), (0, .inr (.inr (some 158))), (1, .inl (1 : Int32)), (2, .inl (nI sp)), (3, .inr (.inr (some 125)))], [], H) _
  refine mw_go mu_g372 (k := 3) (f1 := (66, [(5, .inl (nI x)), (4, .inl (nI (cnb B x))), (0, .inr (.inr (some 158))), (1, .inl (1 : Int32)), (2, .inl (nI sp)), (3, .inr (.inr (some 125)))], [.inr (.inr (mu_r H 158 0)), .inl (nI x)], H)) (C := [mu_is H (some 158) 8]) rfl (show mu_is H (some 158) 8 from (h.1.1.is rfl)) ?_
  rw [(h.1.1.r (p := 158) (j := 0) (q := 99) rfl)]
  refine mw_go mu_g372 (k := 1) (f1 := (69, [(5, .inl (nI x)), (4, .inl (nI (cnb B x))), (0, .inr (.inr (some 158))), (1, .inl (1 : Int32)), (2, .inl (nI sp)), (3, .inr (.inr (some 125)))], [.inl (mu_i H 99 11), .inl (nI x)], H)) (C := [mu_is H (some 99) 13]) rfl (show mu_is H (some 99) 13 from (h.1.1.is rfl)) ?_
  rw [(show mu_i H 99 11 = (nI T) from (ud_i (U := U) (m := m) (P := 99) (j := 11) e rfl).trans hT)]
  refine mw_if (P := (nI x) < (nI T)) (a := 72) (b := 124) (fun _ => rfl) trivial (fun h3 => ?_) (fun h3 => ?_)
  · -- 72: (nI x) < (nI T)
    have nh3 : x < T := (nI_ltI (by omega) (by omega)).mp (show nI x < nI T from h3)
    refine mw_go mu_g372 (k := 2) (f1 := (75, [(5, .inl (nI x)), (4, .inl (nI (cnb B x))), (0, .inr (.inr (some 158))), (1, .inl (1 : Int32)), (2, .inl (nI sp)), (3, .inr (.inr (some 125)))], [.inl (nI x), .inr (.inr (some 125))], H)) (C := []) rfl trivial ?_
    refine mw_cI (fun _ => rfl) trivial ((pv_has_125 (d := (d + 2)) (k := x) h e (by omega)).imp (fun _ _ z => has_alt (b := bts (U.2.2.2.2.1 125) x) z)) (fun x4 H4 q4 => ?_)
    rcases q4 with ⟨rfl, hb4, rfl⟩ | ⟨rfl, hb4, rfl⟩
    · -- (1 : Int32)
      have hbx : B x = true := (hB x (by omega)).mpr hb4
      refine mw_if (P := (1 : Int32) = 0) (a := 118) (b := 81) (fun _ => rfl) trivial (fun h5 => absurd h5 (by decide)) (fun h5 => ?_)
      refine mw_go mu_g372 (k := 2) (f1 := (83, [(5, .inl (nI x)), (4, .inl (nI (cnb B x))), (0, .inr (.inr (some 158))), (1, .inl (1 : Int32)), (2, .inl (nI sp)), (3, .inr (.inr (some 125)))], [.inl (3 : Int32), .inl (1 : Int32)], H)) (C := []) rfl trivial ?_
      refine mw_if (P := (1 : Int32) = (3 : Int32)) (a := 86) (b := 101) (fun _ => rfl) trivial (fun h6 => absurd h6 (by decide)) (fun h6 => ?_)
      refine mw_go mu_g372 (k := 2) (f1 := (103, [(5, .inl (nI x)), (4, .inl (nI (cnb B x))), (0, .inr (.inr (some 158))), (1, .inl (1 : Int32)), (2, .inl (nI sp)), (3, .inr (.inr (some 125)))], [.inl (4 : Int32), .inl (1 : Int32)], H)) (C := []) rfl trivial ?_
      refine mw_if (P := (1 : Int32) = (4 : Int32)) (a := 106) (b := 115) (fun _ => rfl) trivial (fun h7 => absurd h7 (by decide)) (fun h7 => ?_)
      refine mw_go mu_g372 (k := 1) (f1 := (118, [(4, .inl ((nI (cnb B x)) + 1)), (5, .inl (nI x)), (0, .inr (.inr (some 158))), (1, .inl (1 : Int32)), (2, .inl (nI sp)), (3, .inr (.inr (some 125)))], [], H)) (C := []) rfl trivial ?_
      rw [(show ((nI (cnb B x)) + 1) = (nI ((cnb B x) + 1)) from (nI_add (cnb B x) 1))]
      rw [show (nI ((cnb B x) + 1)) = (nI (cnb B (x + 1))) from congrArg nI (by rw [cnb_yes hbx])]
      refine mw_go mu_g372 (k := 1) (f1 := (121, [(5, .inl ((nI x) + 1)), (4, .inl (nI (cnb B (x + 1)))), (0, .inr (.inr (some 158))), (1, .inl (1 : Int32)), (2, .inl (nI sp)), (3, .inr (.inr (some 125)))], [], H)) (C := []) rfl trivial ?_
      rw [(show ((nI x) + 1) = (nI (x + 1)) from (nI_add x 1))]
      refine mw_go mu_g372 (k := 1) (f1 := (60, [(5, .inl (nI (x + 1))), (4, .inl (nI (cnb B (x + 1)))), (0, .inr (.inr (some 158))), (1, .inl (1 : Int32)), (2, .inl (nI sp)), (3, .inr (.inr (some 125)))], [], H)) (C := []) rfl trivial ?_
      exact mw_sub (by simp) (iha (x + 1) (show (x + 1) ≤ T from (by omega)) (by show T - (x + 1) < T - x; omega))
    · -- (0 : Int32)
      have hbx : ¬ B x = true := fun y => by have z := (hB x (by omega)).mp y; rw [hb4] at z; cases z
      refine mw_if (P := (0 : Int32) = 0) (a := 118) (b := 81) (fun _ => rfl) trivial (fun h8 => ?_) (fun h8 => absurd (by decide) h8)
      rw [show (nI (cnb B x)) = (nI (cnb B (x + 1))) from congrArg nI (by rw [cnb_no hbx])]
      refine mw_go mu_g372 (k := 1) (f1 := (121, [(5, .inl ((nI x) + 1)), (4, .inl (nI (cnb B (x + 1)))), (0, .inr (.inr (some 158))), (1, .inl (1 : Int32)), (2, .inl (nI sp)), (3, .inr (.inr (some 125)))], [], H)) (C := []) rfl trivial ?_
      rw [(show ((nI x) + 1) = (nI (x + 1)) from (nI_add x 1))]
      refine mw_go mu_g372 (k := 1) (f1 := (60, [(5, .inl (nI (x + 1))), (4, .inl (nI (cnb B (x + 1)))), (0, .inr (.inr (some 158))), (1, .inl (1 : Int32)), (2, .inl (nI sp)), (3, .inr (.inr (some 125)))], [], H)) (C := []) rfl trivial ?_
      exact mw_sub (by simp) (iha (x + 1) (show (x + 1) ≤ T from (by omega)) (by show T - (x + 1) < T - x; omega))
  · -- 124: not (nI x) < (nI T)
    have nh3 : ¬ x < T := fun z => h3 (show nI x < nI T from (nI_ltI (by omega) (by omega)).mpr z)
    refine mw_go mu_g372 (k := 1) (f1 := (126, [(5, .inl (nI x)), (4, .inl (nI (cnb B x))), (0, .inr (.inr (some 158))), (1, .inl (1 : Int32)), (2, .inl (nI sp)), (3, .inr (.inr (some 125)))], [.inl (nI (cnb B x))], H)) (C := []) rfl trivial ?_
    exact mw_of (fun _ => mu_ret rfl trivial ⟨(nI (cnb B x)), H, rfl, congrArg (fun z => nI (cnb B z)) (show x = T by omega), rfl⟩)
theorem pr_tally2 (h : um m H) (e : ud m H = U) (hT : U.2.1 99 11 = nI T) (hTb : T ≤ 16384) (hB : ∀ s, s < T → (B s = true ↔ bts (U.2.2.2.2.1 149) s = true)) : mu_TI (mu_D (d + 4)) 372 [.inr (.inr (some 158)), .inl (2 : Int32), .inl (nI sp)] H (fun x H1 => x = nI (cnb B T) ∧ H1 = H) := by
  refine mu_meth (M := mu_m372) rfl rfl ?_
  refine mw_ht (mu_fn_of (show [0, 1, 2].Nodup by decide)) ?_
  refine mw_go mu_g372 (k := 1) (f1 := (1, [(0, .inr (.inr (some 158))), (1, .inl (2 : Int32)), (2, .inl (nI sp))], [.inl (2 : Int32)], H)) (C := []) rfl trivial ?_
  refine mw_if (P := (2 : Int32) = 0) (a := 4) (b := 14) (fun _ => rfl) trivial (fun h1 => absurd h1 (by decide)) (fun h1 => ?_)
  refine mw_go mu_g372 (k := 2) (f1 := (16, [(0, .inr (.inr (some 158))), (1, .inl (2 : Int32)), (2, .inl (nI sp))], [.inl (1 : Int32), .inl (2 : Int32)], H)) (C := []) rfl trivial ?_
  refine mw_if (P := (2 : Int32) = (1 : Int32)) (a := 19) (b := 29) (fun _ => rfl) trivial (fun h2 => absurd h2 (by decide)) (fun h2 => ?_)
  refine mw_go mu_g372 (k := 2) (f1 := (31, [(0, .inr (.inr (some 158))), (1, .inl (2 : Int32)), (2, .inl (nI sp))], [.inl (5 : Int32), .inl (2 : Int32)], H)) (C := []) rfl trivial ?_
  refine mw_if (P := (2 : Int32) = (5 : Int32)) (a := 34) (b := 46) (fun _ => rfl) trivial (fun h3 => absurd h3 (by decide)) (fun h3 => ?_)
  refine mw_go mu_g372 (k := 2) (f1 := (50, [(0, .inr (.inr (some 158))), (1, .inl (2 : Int32)), (2, .inl (nI sp))], [.inr (.inr (mu_r H 158 1))], H)) (C := [mu_is H (some 158) 8]) rfl (show mu_is H (some 158) 8 from (h.1.1.is rfl)) ?_
  rw [(h.1.1.r (p := 158) (j := 1) (q := 147) rfl)]
  refine mw_go mu_g372 (k := 1) (f1 := (53, [(0, .inr (.inr (some 158))), (1, .inl (2 : Int32)), (2, .inl (nI sp))], [.inr (.inr (mu_r H 147 3))], H)) (C := [mu_is H (some 147) 2]) rfl (show mu_is H (some 147) 2 from (h.1.1.is rfl)) ?_
  rw [(h.1.1.r (p := 147) (j := 3) (q := 149) rfl)]
  refine mw_go mu_g372 (k := 5) (f1 := (60, [(5, .inl (0 : Int32)), (4, .inl (0 : Int32)), (3, .inr (.inr (some 149))), (0, .inr (.inr (some 158))), (1, .inl (2 : Int32)), (2, .inl (nI sp))], [], H)) (C := []) rfl trivial ?_
  show mu_W _ _ (60, [(5, .inl (nI 0)), (4, .inl (nI (cnb B 0))), (3, .inr (.inr (some 149))), (0, .inr (.inr (some 158))), (1, .inl (2 : Int32)), (2, .inl (nI sp))], [], H) _
  refine mw_sub (L' := [(5, .inl (nI 0)), (4, .inl (nI (cnb B 0))), (0, .inr (.inr (some 158))), (1, .inl (2 : Int32)), (2, .inl (nI sp)), (3, .inr (.inr (some 149)))]) (by simp) ?_
  refine mw_down (α := Nat) (fun zs => (60, [(5, .inl (nI zs)), (4, .inl (nI (cnb B zs))), (0, .inr (.inr (some 158))), (1, .inl (2 : Int32)), (2, .inl (nI sp)), (3, .inr (.inr (some 149)))], [], H)) (fun zs => T - zs) (fun zs => (zs ≤ T)) (fun zs hza iha => ?_) 0 (show 0 ≤ T from (Nat.zero_le _))
  obtain ⟨x, rfl⟩ : ∃ y, y = zs := ⟨zs, rfl⟩
  have hxT := hza
  have hxT : x ≤ T := hxT
  show mu_W _ _ (60, [(5, .inl (nI x)), (4, .inl (nI (cnb B x))), (0, .inr (.inr (some 158))), (1, .inl (2 : Int32)), (2, .inl (nI sp)), (3, .inr (.inr (some 149)))], [], H) _
  refine mw_go mu_g372 (k := 3) (f1 := (66, [(5, .inl (nI x)), (4, .inl (nI (cnb B x))), (0, .inr (.inr (some 158))), (1, .inl (2 : Int32)), (2, .inl (nI sp)), (3, .inr (.inr (some 149)))], [.inr (.inr (mu_r H 158 0)), .inl (nI x)], H)) (C := [mu_is H (some 158) 8]) rfl (show mu_is H (some 158) 8 from (h.1.1.is rfl)) ?_
  rw [(h.1.1.r (p := 158) (j := 0) (q := 99) rfl)]
  refine mw_go mu_g372 (k := 1) (f1 := (69, [(5, .inl (nI x)), (4, .inl (nI (cnb B x))), (0, .inr (.inr (some 158))), (1, .inl (2 : Int32)), (2, .inl (nI sp)), (3, .inr (.inr (some 149)))], [.inl (mu_i H 99 11), .inl (nI x)], H)) (C := [mu_is H (some 99) 13]) rfl (show mu_is H (some 99) 13 from (h.1.1.is rfl)) ?_
  rw [(show mu_i H 99 11 = (nI T) from (ud_i (U := U) (m := m) (P := 99) (j := 11) e rfl).trans hT)]
  refine mw_if (P := (nI x) < (nI T)) (a := 72) (b := 124) (fun _ => rfl) trivial (fun h4 => ?_) (fun h4 => ?_)
  · -- 72: (nI x) < (nI T)
    have nh4 : x < T := (nI_ltI (by omega) (by omega)).mp (show nI x < nI T from h4)
    refine mw_go mu_g372 (k := 2) (f1 := (75, [(5, .inl (nI x)), (4, .inl (nI (cnb B x))), (0, .inr (.inr (some 158))), (1, .inl (2 : Int32)), (2, .inl (nI sp)), (3, .inr (.inr (some 149)))], [.inl (nI x), .inr (.inr (some 149))], H)) (C := []) rfl trivial ?_
    refine mw_cI (fun _ => rfl) trivial ((pv_has_149 (d := (d + 2)) (k := x) h e (by omega)).imp (fun _ _ z => has_alt (b := bts (U.2.2.2.2.1 149) x) z)) (fun x5 H5 q5 => ?_)
    rcases q5 with ⟨rfl, hb5, rfl⟩ | ⟨rfl, hb5, rfl⟩
    · -- (1 : Int32)
      have hbx : B x = true := (hB x (by omega)).mpr hb5
      refine mw_if (P := (1 : Int32) = 0) (a := 118) (b := 81) (fun _ => rfl) trivial (fun h6 => absurd h6 (by decide)) (fun h6 => ?_)
      refine mw_go mu_g372 (k := 2) (f1 := (83, [(5, .inl (nI x)), (4, .inl (nI (cnb B x))), (0, .inr (.inr (some 158))), (1, .inl (2 : Int32)), (2, .inl (nI sp)), (3, .inr (.inr (some 149)))], [.inl (3 : Int32), .inl (2 : Int32)], H)) (C := []) rfl trivial ?_
      refine mw_if (P := (2 : Int32) = (3 : Int32)) (a := 86) (b := 101) (fun _ => rfl) trivial (fun h7 => absurd h7 (by decide)) (fun h7 => ?_)
      refine mw_go mu_g372 (k := 2) (f1 := (103, [(5, .inl (nI x)), (4, .inl (nI (cnb B x))), (0, .inr (.inr (some 158))), (1, .inl (2 : Int32)), (2, .inl (nI sp)), (3, .inr (.inr (some 149)))], [.inl (4 : Int32), .inl (2 : Int32)], H)) (C := []) rfl trivial ?_
      refine mw_if (P := (2 : Int32) = (4 : Int32)) (a := 106) (b := 115) (fun _ => rfl) trivial (fun h8 => absurd h8 (by decide)) (fun h8 => ?_)
      refine mw_go mu_g372 (k := 1) (f1 := (118, [(4, .inl ((nI (cnb B x)) + 1)), (5, .inl (nI x)), (0, .inr (.inr (some 158))), (1, .inl (2 : Int32)), (2, .inl (nI sp)), (3, .inr (.inr (some 149)))], [], H)) (C := []) rfl trivial ?_
      rw [(show ((nI (cnb B x)) + 1) = (nI ((cnb B x) + 1)) from (nI_add (cnb B x) 1))]
      rw [show (nI ((cnb B x) + 1)) = (nI (cnb B (x + 1))) from congrArg nI (by rw [cnb_yes hbx])]
      refine mw_go mu_g372 (k := 1) (f1 := (121, [(5, .inl ((nI x) + 1)), (4, .inl (nI (cnb B (x + 1)))), (0, .inr (.inr (some 158))), (1, .inl (2 : Int32)), (2, .inl (nI sp)), (3, .inr (.inr (some 149)))], [], H)) (C := []) rfl trivial ?_
      rw [(show ((nI x) + 1) = (nI (x + 1)) from (nI_add x 1))]
      refine mw_go mu_g372 (k := 1) (f1 := (60, [(5, .inl (nI (x + 1))), (4, .inl (nI (cnb B (x + 1)))), (0, .inr (.inr (some 158))), (1, .inl (2 : Int32)), (2, .inl (nI sp)), (3, .inr (.inr (some 149)))], [], H)) (C := []) rfl trivial ?_
      exact mw_sub (by simp) (iha (x + 1) (show (x + 1) ≤ T from (by omega)) (by show T - (x + 1) < T - x; omega))
    · -- (0 : Int32)
      have hbx : ¬ B x = true := fun y => by have z := (hB x (by omega)).mp y; rw [hb5] at z; cases z
      refine mw_if (P := (0 : Int32) = 0) (a := 118) (b := 81) (fun _ => rfl) trivial (fun h9 => ?_) (fun h9 => absurd (by decide) h9)
      rw [show (nI (cnb B x)) = (nI (cnb B (x + 1))) from congrArg nI (by rw [cnb_no hbx])]
      refine mw_go mu_g372 (k := 1) (f1 := (121, [(5, .inl ((nI x) + 1)), (4, .inl (nI (cnb B (x + 1)))), (0, .inr (.inr (some 158))), (1, .inl (2 : Int32)), (2, .inl (nI sp)), (3, .inr (.inr (some 149)))], [], H)) (C := []) rfl trivial ?_
      rw [(show ((nI x) + 1) = (nI (x + 1)) from (nI_add x 1))]
      refine mw_go mu_g372 (k := 1) (f1 := (60, [(5, .inl (nI (x + 1))), (4, .inl (nI (cnb B (x + 1)))), (0, .inr (.inr (some 158))), (1, .inl (2 : Int32)), (2, .inl (nI sp)), (3, .inr (.inr (some 149)))], [], H)) (C := []) rfl trivial ?_
      exact mw_sub (by simp) (iha (x + 1) (show (x + 1) ≤ T from (by omega)) (by show T - (x + 1) < T - x; omega))
  · -- 124: not (nI x) < (nI T)
    have nh4 : ¬ x < T := fun z => h4 (show nI x < nI T from (nI_ltI (by omega) (by omega)).mpr z)
    refine mw_go mu_g372 (k := 1) (f1 := (126, [(5, .inl (nI x)), (4, .inl (nI (cnb B x))), (0, .inr (.inr (some 158))), (1, .inl (2 : Int32)), (2, .inl (nI sp)), (3, .inr (.inr (some 149)))], [.inl (nI (cnb B x))], H)) (C := []) rfl trivial ?_
    exact mw_of (fun _ => mu_ret rfl trivial ⟨(nI (cnb B x)), H, rfl, congrArg (fun z => nI (cnb B z)) (show x = T by omega), rfl⟩)
theorem pr_tally3 (h : um m H) (e : ud m H = U) (hT : U.2.1 99 11 = nI T) (hTb : T ≤ 16384) (hB : ∀ s, s < T → (B s = true ↔ bts (U.2.2.2.2.1 149) s = true ∧ bts (U.2.2.2.2.1 148) s = true)) : mu_TI (mu_D (d + 4)) 372 [.inr (.inr (some 158)), .inl (3 : Int32), .inl (nI sp)] H (fun x H1 => x = nI (cnb B T) ∧ H1 = H) := by
  refine mu_meth (M := mu_m372) rfl rfl ?_
  refine mw_ht (mu_fn_of (show [0, 1, 2].Nodup by decide)) ?_
  refine mw_go mu_g372 (k := 1) (f1 := (1, [(0, .inr (.inr (some 158))), (1, .inl (3 : Int32)), (2, .inl (nI sp))], [.inl (3 : Int32)], H)) (C := []) rfl trivial ?_
  refine mw_if (P := (3 : Int32) = 0) (a := 4) (b := 14) (fun _ => rfl) trivial (fun h1 => absurd h1 (by decide)) (fun h1 => ?_)
  refine mw_go mu_g372 (k := 2) (f1 := (16, [(0, .inr (.inr (some 158))), (1, .inl (3 : Int32)), (2, .inl (nI sp))], [.inl (1 : Int32), .inl (3 : Int32)], H)) (C := []) rfl trivial ?_
  refine mw_if (P := (3 : Int32) = (1 : Int32)) (a := 19) (b := 29) (fun _ => rfl) trivial (fun h2 => absurd h2 (by decide)) (fun h2 => ?_)
  refine mw_go mu_g372 (k := 2) (f1 := (31, [(0, .inr (.inr (some 158))), (1, .inl (3 : Int32)), (2, .inl (nI sp))], [.inl (5 : Int32), .inl (3 : Int32)], H)) (C := []) rfl trivial ?_
  refine mw_if (P := (3 : Int32) = (5 : Int32)) (a := 34) (b := 46) (fun _ => rfl) trivial (fun h3 => absurd h3 (by decide)) (fun h3 => ?_)
  refine mw_go mu_g372 (k := 2) (f1 := (50, [(0, .inr (.inr (some 158))), (1, .inl (3 : Int32)), (2, .inl (nI sp))], [.inr (.inr (mu_r H 158 1))], H)) (C := [mu_is H (some 158) 8]) rfl (show mu_is H (some 158) 8 from (h.1.1.is rfl)) ?_
  rw [(h.1.1.r (p := 158) (j := 1) (q := 147) rfl)]
  refine mw_go mu_g372 (k := 1) (f1 := (53, [(0, .inr (.inr (some 158))), (1, .inl (3 : Int32)), (2, .inl (nI sp))], [.inr (.inr (mu_r H 147 3))], H)) (C := [mu_is H (some 147) 2]) rfl (show mu_is H (some 147) 2 from (h.1.1.is rfl)) ?_
  rw [(h.1.1.r (p := 147) (j := 3) (q := 149) rfl)]
  refine mw_go mu_g372 (k := 5) (f1 := (60, [(5, .inl (0 : Int32)), (4, .inl (0 : Int32)), (3, .inr (.inr (some 149))), (0, .inr (.inr (some 158))), (1, .inl (3 : Int32)), (2, .inl (nI sp))], [], H)) (C := []) rfl trivial ?_
  show mu_W _ _ (60, [(5, .inl (nI 0)), (4, .inl (nI (cnb B 0))), (3, .inr (.inr (some 149))), (0, .inr (.inr (some 158))), (1, .inl (3 : Int32)), (2, .inl (nI sp))], [], H) _
  refine mw_sub (L' := [(5, .inl (nI 0)), (4, .inl (nI (cnb B 0))), (0, .inr (.inr (some 158))), (1, .inl (3 : Int32)), (2, .inl (nI sp)), (3, .inr (.inr (some 149)))]) (by simp) ?_
  refine mw_down (α := Nat) (fun zs => (60, [(5, .inl (nI zs)), (4, .inl (nI (cnb B zs))), (0, .inr (.inr (some 158))), (1, .inl (3 : Int32)), (2, .inl (nI sp)), (3, .inr (.inr (some 149)))], [], H)) (fun zs => T - zs) (fun zs => (zs ≤ T)) (fun zs hza iha => ?_) 0 (show 0 ≤ T from (Nat.zero_le _))
  obtain ⟨x, rfl⟩ : ∃ y, y = zs := ⟨zs, rfl⟩
  have hxT := hza
  have hxT : x ≤ T := hxT
  show mu_W _ _ (60, [(5, .inl (nI x)), (4, .inl (nI (cnb B x))), (0, .inr (.inr (some 158))), (1, .inl (3 : Int32)), (2, .inl (nI sp)), (3, .inr (.inr (some 149)))], [], H) _
  refine mw_go mu_g372 (k := 3) (f1 := (66, [(5, .inl (nI x)), (4, .inl (nI (cnb B x))), (0, .inr (.inr (some 158))), (1, .inl (3 : Int32)), (2, .inl (nI sp)), (3, .inr (.inr (some 149)))], [.inr (.inr (mu_r H 158 0)), .inl (nI x)], H)) (C := [mu_is H (some 158) 8]) rfl (show mu_is H (some 158) 8 from (h.1.1.is rfl)) ?_
  rw [(h.1.1.r (p := 158) (j := 0) (q := 99) rfl)]
  refine mw_go mu_g372 (k := 1) (f1 := (69, [(5, .inl (nI x)), (4, .inl (nI (cnb B x))), (0, .inr (.inr (some 158))), (1, .inl (3 : Int32)), (2, .inl (nI sp)), (3, .inr (.inr (some 149)))], [.inl (mu_i H 99 11), .inl (nI x)], H)) (C := [mu_is H (some 99) 13]) rfl (show mu_is H (some 99) 13 from (h.1.1.is rfl)) ?_
  rw [(show mu_i H 99 11 = (nI T) from (ud_i (U := U) (m := m) (P := 99) (j := 11) e rfl).trans hT)]
  refine mw_if (P := (nI x) < (nI T)) (a := 72) (b := 124) (fun _ => rfl) trivial (fun h4 => ?_) (fun h4 => ?_)
  · -- 72: (nI x) < (nI T)
    have nh4 : x < T := (nI_ltI (by omega) (by omega)).mp (show nI x < nI T from h4)
    refine mw_go mu_g372 (k := 2) (f1 := (75, [(5, .inl (nI x)), (4, .inl (nI (cnb B x))), (0, .inr (.inr (some 158))), (1, .inl (3 : Int32)), (2, .inl (nI sp)), (3, .inr (.inr (some 149)))], [.inl (nI x), .inr (.inr (some 149))], H)) (C := []) rfl trivial ?_
    refine mw_cI (fun _ => rfl) trivial ((pv_has_149 (d := (d + 2)) (k := x) h e (by omega)).imp (fun _ _ z => has_alt (b := bts (U.2.2.2.2.1 149) x) z)) (fun x5 H5 q5 => ?_)
    rcases q5 with ⟨rfl, hb5, rfl⟩ | ⟨rfl, hb5, rfl⟩
    · -- (1 : Int32)
      refine mw_if (P := (1 : Int32) = 0) (a := 118) (b := 81) (fun _ => rfl) trivial (fun h6 => absurd h6 (by decide)) (fun h6 => ?_)
      refine mw_go mu_g372 (k := 2) (f1 := (83, [(5, .inl (nI x)), (4, .inl (nI (cnb B x))), (0, .inr (.inr (some 158))), (1, .inl (3 : Int32)), (2, .inl (nI sp)), (3, .inr (.inr (some 149)))], [.inl (3 : Int32), .inl (3 : Int32)], H)) (C := []) rfl trivial ?_
      refine mw_if (P := (3 : Int32) = (3 : Int32)) (a := 86) (b := 101) (fun _ => rfl) trivial (fun h7 => ?_) (fun h7 => absurd rfl h7)
      refine mw_go mu_g372 (k := 2) (f1 := (90, [(5, .inl (nI x)), (4, .inl (nI (cnb B x))), (0, .inr (.inr (some 158))), (1, .inl (3 : Int32)), (2, .inl (nI sp)), (3, .inr (.inr (some 149)))], [.inr (.inr (mu_r H 158 1))], H)) (C := [mu_is H (some 158) 8]) rfl (show mu_is H (some 158) 8 from (h.1.1.is rfl)) ?_
      rw [(h.1.1.r (p := 158) (j := 1) (q := 147) rfl)]
      refine mw_go mu_g372 (k := 1) (f1 := (93, [(5, .inl (nI x)), (4, .inl (nI (cnb B x))), (0, .inr (.inr (some 158))), (1, .inl (3 : Int32)), (2, .inl (nI sp)), (3, .inr (.inr (some 149)))], [.inr (.inr (mu_r H 147 2))], H)) (C := [mu_is H (some 147) 2]) rfl (show mu_is H (some 147) 2 from (h.1.1.is rfl)) ?_
      rw [(h.1.1.r (p := 147) (j := 2) (q := 148) rfl)]
      refine mw_go mu_g372 (k := 1) (f1 := (95, [(5, .inl (nI x)), (4, .inl (nI (cnb B x))), (0, .inr (.inr (some 158))), (1, .inl (3 : Int32)), (2, .inl (nI sp)), (3, .inr (.inr (some 149)))], [.inl (nI x), .inr (.inr (some 148))], H)) (C := []) rfl trivial ?_
      refine mw_cI (fun _ => rfl) trivial ((pv_has_148 (d := (d + 2)) (k := x) h e (by omega)).imp (fun _ _ z => has_alt (b := bts (U.2.2.2.2.1 148) x) z)) (fun x8 H8 q8 => ?_)
      rcases q8 with ⟨rfl, hb8, rfl⟩ | ⟨rfl, hb8, rfl⟩
      · -- (1 : Int32)
        have hbx : B x = true := (hB x (by omega)).mpr ⟨hb5, hb8⟩
        refine mw_if (P := (1 : Int32) = 0) (a := 118) (b := 101) (fun _ => rfl) trivial (fun h9 => absurd h9 (by decide)) (fun h9 => ?_)
        refine mw_go mu_g372 (k := 2) (f1 := (103, [(5, .inl (nI x)), (4, .inl (nI (cnb B x))), (0, .inr (.inr (some 158))), (1, .inl (3 : Int32)), (2, .inl (nI sp)), (3, .inr (.inr (some 149)))], [.inl (4 : Int32), .inl (3 : Int32)], H)) (C := []) rfl trivial ?_
        refine mw_if (P := (3 : Int32) = (4 : Int32)) (a := 106) (b := 115) (fun _ => rfl) trivial (fun h10 => absurd h10 (by decide)) (fun h10 => ?_)
        refine mw_go mu_g372 (k := 1) (f1 := (118, [(4, .inl ((nI (cnb B x)) + 1)), (5, .inl (nI x)), (0, .inr (.inr (some 158))), (1, .inl (3 : Int32)), (2, .inl (nI sp)), (3, .inr (.inr (some 149)))], [], H)) (C := []) rfl trivial ?_
        rw [(show ((nI (cnb B x)) + 1) = (nI ((cnb B x) + 1)) from (nI_add (cnb B x) 1))]
        rw [show (nI ((cnb B x) + 1)) = (nI (cnb B (x + 1))) from congrArg nI (by rw [cnb_yes hbx])]
        refine mw_go mu_g372 (k := 1) (f1 := (121, [(5, .inl ((nI x) + 1)), (4, .inl (nI (cnb B (x + 1)))), (0, .inr (.inr (some 158))), (1, .inl (3 : Int32)), (2, .inl (nI sp)), (3, .inr (.inr (some 149)))], [], H)) (C := []) rfl trivial ?_
        rw [(show ((nI x) + 1) = (nI (x + 1)) from (nI_add x 1))]
        refine mw_go mu_g372 (k := 1) (f1 := (60, [(5, .inl (nI (x + 1))), (4, .inl (nI (cnb B (x + 1)))), (0, .inr (.inr (some 158))), (1, .inl (3 : Int32)), (2, .inl (nI sp)), (3, .inr (.inr (some 149)))], [], H)) (C := []) rfl trivial ?_
        exact mw_sub (by simp) (iha (x + 1) (show (x + 1) ≤ T from (by omega)) (by show T - (x + 1) < T - x; omega))
      · -- (0 : Int32)
        have hbx : ¬ B x = true := fun y => by have z := (hB x (by omega)).mp y; rw [hb8] at z; exact absurd z.2 (by decide)
        refine mw_if (P := (0 : Int32) = 0) (a := 118) (b := 101) (fun _ => rfl) trivial (fun h11 => ?_) (fun h11 => absurd (by decide) h11)
        rw [show (nI (cnb B x)) = (nI (cnb B (x + 1))) from congrArg nI (by rw [cnb_no hbx])]
        refine mw_go mu_g372 (k := 1) (f1 := (121, [(5, .inl ((nI x) + 1)), (4, .inl (nI (cnb B (x + 1)))), (0, .inr (.inr (some 158))), (1, .inl (3 : Int32)), (2, .inl (nI sp)), (3, .inr (.inr (some 149)))], [], H)) (C := []) rfl trivial ?_
        rw [(show ((nI x) + 1) = (nI (x + 1)) from (nI_add x 1))]
        refine mw_go mu_g372 (k := 1) (f1 := (60, [(5, .inl (nI (x + 1))), (4, .inl (nI (cnb B (x + 1)))), (0, .inr (.inr (some 158))), (1, .inl (3 : Int32)), (2, .inl (nI sp)), (3, .inr (.inr (some 149)))], [], H)) (C := []) rfl trivial ?_
        exact mw_sub (by simp) (iha (x + 1) (show (x + 1) ≤ T from (by omega)) (by show T - (x + 1) < T - x; omega))
    · -- (0 : Int32)
      have hbx : ¬ B x = true := fun y => by have z := (hB x (by omega)).mp y; rw [hb5] at z; exact absurd z.1 (by decide)
      refine mw_if (P := (0 : Int32) = 0) (a := 118) (b := 81) (fun _ => rfl) trivial (fun h12 => ?_) (fun h12 => absurd (by decide) h12)
      rw [show (nI (cnb B x)) = (nI (cnb B (x + 1))) from congrArg nI (by rw [cnb_no hbx])]
      refine mw_go mu_g372 (k := 1) (f1 := (121, [(5, .inl ((nI x) + 1)), (4, .inl (nI (cnb B (x + 1)))), (0, .inr (.inr (some 158))), (1, .inl (3 : Int32)), (2, .inl (nI sp)), (3, .inr (.inr (some 149)))], [], H)) (C := []) rfl trivial ?_
      rw [(show ((nI x) + 1) = (nI (x + 1)) from (nI_add x 1))]
      refine mw_go mu_g372 (k := 1) (f1 := (60, [(5, .inl (nI (x + 1))), (4, .inl (nI (cnb B (x + 1)))), (0, .inr (.inr (some 158))), (1, .inl (3 : Int32)), (2, .inl (nI sp)), (3, .inr (.inr (some 149)))], [], H)) (C := []) rfl trivial ?_
      exact mw_sub (by simp) (iha (x + 1) (show (x + 1) ≤ T from (by omega)) (by show T - (x + 1) < T - x; omega))
  · -- 124: not (nI x) < (nI T)
    have nh4 : ¬ x < T := fun z => h4 (show nI x < nI T from (nI_ltI (by omega) (by omega)).mpr z)
    refine mw_go mu_g372 (k := 1) (f1 := (126, [(5, .inl (nI x)), (4, .inl (nI (cnb B x))), (0, .inr (.inr (some 158))), (1, .inl (3 : Int32)), (2, .inl (nI sp)), (3, .inr (.inr (some 149)))], [.inl (nI (cnb B x))], H)) (C := []) rfl trivial ?_
    exact mw_of (fun _ => mu_ret rfl trivial ⟨(nI (cnb B x)), H, rfl, congrArg (fun z => nI (cnb B z)) (show x = T by omega), rfl⟩)
theorem pr_tally4 (h : um m H) (e : ud m H = U) (hT : U.2.1 99 11 = nI T) (hTb : T ≤ 16384) (h6 : T ≤ (U.2.2.1 129 6).1) (h6b : (U.2.2.1 129 6).1 ≤ 16777216) (hrow : ∀ s, s < T → (U.2.2.1 129 6).2 s = nI (rx s)) (hF : U.2.1 113 8 = nI fb) (hz : ∀ s, s < T → SZR U fb (rx s) (zz s)) (hzb : ∀ s, zz s < 2147483648) (hB : ∀ s, s < T → (B s = true ↔ bts (U.2.2.2.2.1 149) s = true ∧ zz s = 0)) : mu_TI (mu_D (d + 4)) 372 [.inr (.inr (some 158)), .inl (4 : Int32), .inl (nI sp)] H (fun x H1 => x = nI (cnb B T) ∧ H1 = H) := by
  refine mu_meth (M := mu_m372) rfl rfl ?_
  refine mw_ht (mu_fn_of (show [0, 1, 2].Nodup by decide)) ?_
  refine mw_go mu_g372 (k := 1) (f1 := (1, [(0, .inr (.inr (some 158))), (1, .inl (4 : Int32)), (2, .inl (nI sp))], [.inl (4 : Int32)], H)) (C := []) rfl trivial ?_
  refine mw_if (P := (4 : Int32) = 0) (a := 4) (b := 14) (fun _ => rfl) trivial (fun h1 => absurd h1 (by decide)) (fun h1 => ?_)
  refine mw_go mu_g372 (k := 2) (f1 := (16, [(0, .inr (.inr (some 158))), (1, .inl (4 : Int32)), (2, .inl (nI sp))], [.inl (1 : Int32), .inl (4 : Int32)], H)) (C := []) rfl trivial ?_
  refine mw_if (P := (4 : Int32) = (1 : Int32)) (a := 19) (b := 29) (fun _ => rfl) trivial (fun h2 => absurd h2 (by decide)) (fun h2 => ?_)
  refine mw_go mu_g372 (k := 2) (f1 := (31, [(0, .inr (.inr (some 158))), (1, .inl (4 : Int32)), (2, .inl (nI sp))], [.inl (5 : Int32), .inl (4 : Int32)], H)) (C := []) rfl trivial ?_
  refine mw_if (P := (4 : Int32) = (5 : Int32)) (a := 34) (b := 46) (fun _ => rfl) trivial (fun h3 => absurd h3 (by decide)) (fun h3 => ?_)
  refine mw_go mu_g372 (k := 2) (f1 := (50, [(0, .inr (.inr (some 158))), (1, .inl (4 : Int32)), (2, .inl (nI sp))], [.inr (.inr (mu_r H 158 1))], H)) (C := [mu_is H (some 158) 8]) rfl (show mu_is H (some 158) 8 from (h.1.1.is rfl)) ?_
  rw [(h.1.1.r (p := 158) (j := 1) (q := 147) rfl)]
  refine mw_go mu_g372 (k := 1) (f1 := (53, [(0, .inr (.inr (some 158))), (1, .inl (4 : Int32)), (2, .inl (nI sp))], [.inr (.inr (mu_r H 147 3))], H)) (C := [mu_is H (some 147) 2]) rfl (show mu_is H (some 147) 2 from (h.1.1.is rfl)) ?_
  rw [(h.1.1.r (p := 147) (j := 3) (q := 149) rfl)]
  refine mw_go mu_g372 (k := 5) (f1 := (60, [(5, .inl (0 : Int32)), (4, .inl (0 : Int32)), (3, .inr (.inr (some 149))), (0, .inr (.inr (some 158))), (1, .inl (4 : Int32)), (2, .inl (nI sp))], [], H)) (C := []) rfl trivial ?_
  show mu_W _ _ (60, [(5, .inl (nI 0)), (4, .inl (nI (cnb B 0))), (3, .inr (.inr (some 149))), (0, .inr (.inr (some 158))), (1, .inl (4 : Int32)), (2, .inl (nI sp))], [], H) _
  refine mw_sub (L' := [(5, .inl (nI 0)), (4, .inl (nI (cnb B 0))), (0, .inr (.inr (some 158))), (1, .inl (4 : Int32)), (2, .inl (nI sp)), (3, .inr (.inr (some 149)))]) (by simp) ?_
  refine mw_down (α := Nat) (fun zs => (60, [(5, .inl (nI zs)), (4, .inl (nI (cnb B zs))), (0, .inr (.inr (some 158))), (1, .inl (4 : Int32)), (2, .inl (nI sp)), (3, .inr (.inr (some 149)))], [], H)) (fun zs => T - zs) (fun zs => (zs ≤ T)) (fun zs hza iha => ?_) 0 (show 0 ≤ T from (Nat.zero_le _))
  obtain ⟨x, rfl⟩ : ∃ y, y = zs := ⟨zs, rfl⟩
  have hxT := hza
  have hxT : x ≤ T := hxT
  show mu_W _ _ (60, [(5, .inl (nI x)), (4, .inl (nI (cnb B x))), (0, .inr (.inr (some 158))), (1, .inl (4 : Int32)), (2, .inl (nI sp)), (3, .inr (.inr (some 149)))], [], H) _
  refine mw_go mu_g372 (k := 3) (f1 := (66, [(5, .inl (nI x)), (4, .inl (nI (cnb B x))), (0, .inr (.inr (some 158))), (1, .inl (4 : Int32)), (2, .inl (nI sp)), (3, .inr (.inr (some 149)))], [.inr (.inr (mu_r H 158 0)), .inl (nI x)], H)) (C := [mu_is H (some 158) 8]) rfl (show mu_is H (some 158) 8 from (h.1.1.is rfl)) ?_
  rw [(h.1.1.r (p := 158) (j := 0) (q := 99) rfl)]
  refine mw_go mu_g372 (k := 1) (f1 := (69, [(5, .inl (nI x)), (4, .inl (nI (cnb B x))), (0, .inr (.inr (some 158))), (1, .inl (4 : Int32)), (2, .inl (nI sp)), (3, .inr (.inr (some 149)))], [.inl (mu_i H 99 11), .inl (nI x)], H)) (C := [mu_is H (some 99) 13]) rfl (show mu_is H (some 99) 13 from (h.1.1.is rfl)) ?_
  rw [(show mu_i H 99 11 = (nI T) from (ud_i (U := U) (m := m) (P := 99) (j := 11) e rfl).trans hT)]
  refine mw_if (P := (nI x) < (nI T)) (a := 72) (b := 124) (fun _ => rfl) trivial (fun h4 => ?_) (fun h4 => ?_)
  · -- 72: (nI x) < (nI T)
    have nh4 : x < T := (nI_ltI (by omega) (by omega)).mp (show nI x < nI T from h4)
    refine mw_go mu_g372 (k := 2) (f1 := (75, [(5, .inl (nI x)), (4, .inl (nI (cnb B x))), (0, .inr (.inr (some 158))), (1, .inl (4 : Int32)), (2, .inl (nI sp)), (3, .inr (.inr (some 149)))], [.inl (nI x), .inr (.inr (some 149))], H)) (C := []) rfl trivial ?_
    refine mw_cI (fun _ => rfl) trivial ((pv_has_149 (d := (d + 2)) (k := x) h e (by omega)).imp (fun _ _ z => has_alt (b := bts (U.2.2.2.2.1 149) x) z)) (fun x5 H5 q5 => ?_)
    rcases q5 with ⟨rfl, hb5, rfl⟩ | ⟨rfl, hb5, rfl⟩
    · -- (1 : Int32)
      refine mw_if (P := (1 : Int32) = 0) (a := 118) (b := 81) (fun _ => rfl) trivial (fun h6 => absurd h6 (by decide)) (fun h6 => ?_)
      refine mw_go mu_g372 (k := 2) (f1 := (83, [(5, .inl (nI x)), (4, .inl (nI (cnb B x))), (0, .inr (.inr (some 158))), (1, .inl (4 : Int32)), (2, .inl (nI sp)), (3, .inr (.inr (some 149)))], [.inl (3 : Int32), .inl (4 : Int32)], H)) (C := []) rfl trivial ?_
      refine mw_if (P := (4 : Int32) = (3 : Int32)) (a := 86) (b := 101) (fun _ => rfl) trivial (fun h7 => absurd h7 (by decide)) (fun h7 => ?_)
      refine mw_go mu_g372 (k := 2) (f1 := (103, [(5, .inl (nI x)), (4, .inl (nI (cnb B x))), (0, .inr (.inr (some 158))), (1, .inl (4 : Int32)), (2, .inl (nI sp)), (3, .inr (.inr (some 149)))], [.inl (4 : Int32), .inl (4 : Int32)], H)) (C := []) rfl trivial ?_
      refine mw_if (P := (4 : Int32) = (4 : Int32)) (a := 106) (b := 115) (fun _ => rfl) trivial (fun h8 => ?_) (fun h8 => absurd rfl h8)
      refine mw_go mu_g372 (k := 2) (f1 := (109, [(5, .inl (nI x)), (4, .inl (nI (cnb B x))), (0, .inr (.inr (some 158))), (1, .inl (4 : Int32)), (2, .inl (nI sp)), (3, .inr (.inr (some 149)))], [.inl (nI x), .inr (.inr (some 158))], H)) (C := []) rfl trivial ?_
      refine mw_cI (fun _ => rfl) (show mu_is H (some 158) 8 from (h.1.1.is rfl)) (pr_followers (d := d) (k := x) (r := rx x) (n := zz x) h e (by omega) h6b (hrow x (by omega)) hF (hz x (by omega))) (fun x9 H9 q9 => ?_)
      obtain ⟨rfl, hHv9⟩ := q9
      rw [hHv9]
      by_cases hzx : zz x = 0
      · -- followers
        have hbx : B x = true := (hB x (by omega)).mpr ⟨hb5, hzx⟩
        refine mw_if (P := (nI (zz x)) = 0) (a := 115) (b := 118) (fun _ => rfl) trivial (fun h10 => ?_) (fun h10 => absurd (show nI (zz x) = (0 : Int32) from by rw [hzx]; rfl) h10)
        refine mw_go mu_g372 (k := 1) (f1 := (118, [(4, .inl ((nI (cnb B x)) + 1)), (5, .inl (nI x)), (0, .inr (.inr (some 158))), (1, .inl (4 : Int32)), (2, .inl (nI sp)), (3, .inr (.inr (some 149)))], [], H)) (C := []) rfl trivial ?_
        rw [(show ((nI (cnb B x)) + 1) = (nI ((cnb B x) + 1)) from (nI_add (cnb B x) 1))]
        rw [show (nI ((cnb B x) + 1)) = (nI (cnb B (x + 1))) from congrArg nI (by rw [cnb_yes hbx])]
        refine mw_go mu_g372 (k := 1) (f1 := (121, [(5, .inl ((nI x) + 1)), (4, .inl (nI (cnb B (x + 1)))), (0, .inr (.inr (some 158))), (1, .inl (4 : Int32)), (2, .inl (nI sp)), (3, .inr (.inr (some 149)))], [], H)) (C := []) rfl trivial ?_
        rw [(show ((nI x) + 1) = (nI (x + 1)) from (nI_add x 1))]
        refine mw_go mu_g372 (k := 1) (f1 := (60, [(5, .inl (nI (x + 1))), (4, .inl (nI (cnb B (x + 1)))), (0, .inr (.inr (some 158))), (1, .inl (4 : Int32)), (2, .inl (nI sp)), (3, .inr (.inr (some 149)))], [], H)) (C := []) rfl trivial ?_
        exact mw_sub (by simp) (iha (x + 1) (show (x + 1) ≤ T from (by omega)) (by show T - (x + 1) < T - x; omega))
      · -- followers
        have hbx : ¬ B x = true := fun y => hzx ((hB x (by omega)).mp y).2
        refine mw_if (P := (nI (zz x)) = 0) (a := 115) (b := 118) (fun _ => rfl) trivial (fun h11 => absurd h11 (fun z => hzx ((nI_eq (by have := hzb x; omega) (by omega)).mp (show nI (zz x) = nI 0 from z)))) (fun h11 => ?_)
        rw [show (nI (cnb B x)) = (nI (cnb B (x + 1))) from congrArg nI (by rw [cnb_no hbx])]
        refine mw_go mu_g372 (k := 1) (f1 := (121, [(5, .inl ((nI x) + 1)), (4, .inl (nI (cnb B (x + 1)))), (0, .inr (.inr (some 158))), (1, .inl (4 : Int32)), (2, .inl (nI sp)), (3, .inr (.inr (some 149)))], [], H)) (C := []) rfl trivial ?_
        rw [(show ((nI x) + 1) = (nI (x + 1)) from (nI_add x 1))]
        refine mw_go mu_g372 (k := 1) (f1 := (60, [(5, .inl (nI (x + 1))), (4, .inl (nI (cnb B (x + 1)))), (0, .inr (.inr (some 158))), (1, .inl (4 : Int32)), (2, .inl (nI sp)), (3, .inr (.inr (some 149)))], [], H)) (C := []) rfl trivial ?_
        exact mw_sub (by simp) (iha (x + 1) (show (x + 1) ≤ T from (by omega)) (by show T - (x + 1) < T - x; omega))
    · -- (0 : Int32)
      have hbx : ¬ B x = true := fun y => by have z := (hB x (by omega)).mp y; rw [hb5] at z; exact absurd z.1 (by decide)
      refine mw_if (P := (0 : Int32) = 0) (a := 118) (b := 81) (fun _ => rfl) trivial (fun h12 => ?_) (fun h12 => absurd (by decide) h12)
      rw [show (nI (cnb B x)) = (nI (cnb B (x + 1))) from congrArg nI (by rw [cnb_no hbx])]
      refine mw_go mu_g372 (k := 1) (f1 := (121, [(5, .inl ((nI x) + 1)), (4, .inl (nI (cnb B (x + 1)))), (0, .inr (.inr (some 158))), (1, .inl (4 : Int32)), (2, .inl (nI sp)), (3, .inr (.inr (some 149)))], [], H)) (C := []) rfl trivial ?_
      rw [(show ((nI x) + 1) = (nI (x + 1)) from (nI_add x 1))]
      refine mw_go mu_g372 (k := 1) (f1 := (60, [(5, .inl (nI (x + 1))), (4, .inl (nI (cnb B (x + 1)))), (0, .inr (.inr (some 158))), (1, .inl (4 : Int32)), (2, .inl (nI sp)), (3, .inr (.inr (some 149)))], [], H)) (C := []) rfl trivial ?_
      exact mw_sub (by simp) (iha (x + 1) (show (x + 1) ≤ T from (by omega)) (by show T - (x + 1) < T - x; omega))
  · -- 124: not (nI x) < (nI T)
    have nh4 : ¬ x < T := fun z => h4 (show nI x < nI T from (nI_ltI (by omega) (by omega)).mpr z)
    refine mw_go mu_g372 (k := 1) (f1 := (126, [(5, .inl (nI x)), (4, .inl (nI (cnb B x))), (0, .inr (.inr (some 158))), (1, .inl (4 : Int32)), (2, .inl (nI sp)), (3, .inr (.inr (some 149)))], [.inl (nI (cnb B x))], H)) (C := []) rfl trivial ?_
    exact mw_of (fun _ => mu_ret rfl trivial ⟨(nI (cnb B x)), H, rfl, congrArg (fun z => nI (cnb B z)) (show x = T by omega), rfl⟩)
theorem pr_tally5 (h : um m H) (e : ud m H = U) (hT : U.2.1 99 11 = nI T) (hTb : T ≤ 16384) (hsp : sp < 2147483648) (hk0 : LSN U 163 (sp % 64) gq L) (hLb : L ≤ 256) (hLT : T ≤ 64 * L) (hB : ∀ s, s < T → (B s = true ↔ bts (lgf U 163 (sp % 64)) s = true)) : mu_TI (mu_D (d + 4)) 372 [.inr (.inr (some 158)), .inl (5 : Int32), .inl (nI sp)] H (fun x H1 => x = nI (cnb B T) ∧ H1 = H) := by
  refine mu_meth (M := mu_m372) rfl rfl ?_
  refine mw_ht (mu_fn_of (show [0, 1, 2].Nodup by decide)) ?_
  refine mw_go mu_g372 (k := 1) (f1 := (1, [(0, .inr (.inr (some 158))), (1, .inl (5 : Int32)), (2, .inl (nI sp))], [.inl (5 : Int32)], H)) (C := []) rfl trivial ?_
  refine mw_if (P := (5 : Int32) = 0) (a := 4) (b := 14) (fun _ => rfl) trivial (fun h1 => absurd h1 (by decide)) (fun h1 => ?_)
  refine mw_go mu_g372 (k := 2) (f1 := (16, [(0, .inr (.inr (some 158))), (1, .inl (5 : Int32)), (2, .inl (nI sp))], [.inl (1 : Int32), .inl (5 : Int32)], H)) (C := []) rfl trivial ?_
  refine mw_if (P := (5 : Int32) = (1 : Int32)) (a := 19) (b := 29) (fun _ => rfl) trivial (fun h2 => absurd h2 (by decide)) (fun h2 => ?_)
  refine mw_go mu_g372 (k := 2) (f1 := (31, [(0, .inr (.inr (some 158))), (1, .inl (5 : Int32)), (2, .inl (nI sp))], [.inl (5 : Int32), .inl (5 : Int32)], H)) (C := []) rfl trivial ?_
  refine mw_if (P := (5 : Int32) = (5 : Int32)) (a := 34) (b := 46) (fun _ => rfl) trivial (fun h3 => ?_) (fun h3 => absurd rfl h3)
  refine mw_go mu_g372 (k := 2) (f1 := (38, [(0, .inr (.inr (some 158))), (1, .inl (5 : Int32)), (2, .inl (nI sp))], [.inr (.inr (mu_r H 158 6))], H)) (C := [mu_is H (some 158) 8]) rfl (show mu_is H (some 158) 8 from (h.1.1.is rfl)) ?_
  rw [(h.1.1.r (p := 158) (j := 6) (q := 163) rfl)]
  refine mw_go mu_g372 (k := 3) (f1 := (42, [(0, .inr (.inr (some 158))), (1, .inl (5 : Int32)), (2, .inl (nI sp))], [.inl ((nI sp) - (nI sp) / (64 : Int32) * (64 : Int32)), .inr (.inr (some 163))], H)) (C := [¬ (64 : Int32) = 0]) rfl (show ¬ (64 : Int32) = 0 from (by decide)) ?_
  rw [(show ((nI sp) - (nI sp) / (64 : Int32) * (64 : Int32)) = (nI (sp % 64)) from (nI_mod (a := sp) (b := 64) (by omega) (by omega)))]
  have ka4 : mu_r H 163 (sp % 64) = some gq := (dR_pool e (Or.inr rfl) (plp163 (show sp % 64 < 64 by omega))).trans (LSN.ref (show LSN U 163 (sp % 64) gq _ from hk0) (Or.inr rfl))
  refine mw_go mu_g372 (k := 1) (f1 := (43, [(0, .inr (.inr (some 158))), (1, .inl (5 : Int32)), (2, .inl (nI sp))], [.inr (.inr (mu_r H 163 (nI (sp % 64)).toNatClampNeg))], H)) (C := [mu_is H (some 163) (mu_k H 163), 103 ≤ mu_k H 163 ∧ mu_k H 163 ≤ 110 ∧ mu_k H 163 ≠ 108, vp_in (nI (sp % 64)) (mu_n H 163)]) rfl (show (mu_is H (some 163) (mu_k H 163)) ∧ (103 ≤ mu_k H 163 ∧ mu_k H 163 ≤ 110 ∧ mu_k H 163 ≠ 108) ∧ (vp_in (nI (sp % 64)) (mu_n H 163)) from ⟨(by have z := (h.1.1.a (p := 163) (x := (104, 64)) rfl).1; rw [show mu_k H 163 = 104 from z.2.2]; exact z), (by have z := (h.1.1.a (p := 163) (x := (104, 64)) rfl).1; rw [show mu_k H 163 = 104 from z.2.2]; decide), (by rw [show mu_n H 163 = 64 from (h.1.1.a (p := 163) (x := (104, 64)) rfl).2]; exact vp_in_nI (n := sp % 64) (by omega) (by decide))⟩) ?_
  rw [show (mu_r H 163 (nI (sp % 64)).toNatClampNeg) = (some gq) from (congrArg (mu_r H 163) (show (nI (sp % 64)).toNatClampNeg = sp % 64 from nI_clamp (by omega))).trans ka4]
  refine mw_go mu_g372 (k := 6) (f1 := (60, [(5, .inl (0 : Int32)), (4, .inl (0 : Int32)), (3, .inr (.inr (some gq))), (0, .inr (.inr (some 158))), (1, .inl (5 : Int32)), (2, .inl (nI sp))], [], H)) (C := []) rfl trivial ?_
  show mu_W _ _ (60, [(5, .inl (nI 0)), (4, .inl (nI (cnb B 0))), (3, .inr (.inr (some gq))), (0, .inr (.inr (some 158))), (1, .inl (5 : Int32)), (2, .inl (nI sp))], [], H) _
  refine mw_sub (L' := [(5, .inl (nI 0)), (4, .inl (nI (cnb B 0))), (0, .inr (.inr (some 158))), (1, .inl (5 : Int32)), (2, .inl (nI sp)), (3, .inr (.inr (some gq)))]) (by simp) ?_
  refine mw_down (α := Nat) (fun zs => (60, [(5, .inl (nI zs)), (4, .inl (nI (cnb B zs))), (0, .inr (.inr (some 158))), (1, .inl (5 : Int32)), (2, .inl (nI sp)), (3, .inr (.inr (some gq)))], [], H)) (fun zs => T - zs) (fun zs => (zs ≤ T)) (fun zs hza iha => ?_) 0 (show 0 ≤ T from (Nat.zero_le _))
  obtain ⟨x, rfl⟩ : ∃ y, y = zs := ⟨zs, rfl⟩
  have hxT := hza
  have hxT : x ≤ T := hxT
  show mu_W _ _ (60, [(5, .inl (nI x)), (4, .inl (nI (cnb B x))), (0, .inr (.inr (some 158))), (1, .inl (5 : Int32)), (2, .inl (nI sp)), (3, .inr (.inr (some gq)))], [], H) _
  refine mw_go mu_g372 (k := 3) (f1 := (66, [(5, .inl (nI x)), (4, .inl (nI (cnb B x))), (0, .inr (.inr (some 158))), (1, .inl (5 : Int32)), (2, .inl (nI sp)), (3, .inr (.inr (some gq)))], [.inr (.inr (mu_r H 158 0)), .inl (nI x)], H)) (C := [mu_is H (some 158) 8]) rfl (show mu_is H (some 158) 8 from (h.1.1.is rfl)) ?_
  rw [(h.1.1.r (p := 158) (j := 0) (q := 99) rfl)]
  refine mw_go mu_g372 (k := 1) (f1 := (69, [(5, .inl (nI x)), (4, .inl (nI (cnb B x))), (0, .inr (.inr (some 158))), (1, .inl (5 : Int32)), (2, .inl (nI sp)), (3, .inr (.inr (some gq)))], [.inl (mu_i H 99 11), .inl (nI x)], H)) (C := [mu_is H (some 99) 13]) rfl (show mu_is H (some 99) 13 from (h.1.1.is rfl)) ?_
  rw [(show mu_i H 99 11 = (nI T) from (ud_i (U := U) (m := m) (P := 99) (j := 11) e rfl).trans hT)]
  refine mw_if (P := (nI x) < (nI T)) (a := 72) (b := 124) (fun _ => rfl) trivial (fun h5 => ?_) (fun h5 => ?_)
  · -- 72: (nI x) < (nI T)
    have nh5 : x < T := (nI_ltI (by omega) (by omega)).mp (show nI x < nI T from h5)
    refine mw_go mu_g372 (k := 2) (f1 := (75, [(5, .inl (nI x)), (4, .inl (nI (cnb B x))), (0, .inr (.inr (some 158))), (1, .inl (5 : Int32)), (2, .inl (nI sp)), (3, .inr (.inr (some gq)))], [.inl (nI x), .inr (.inr (some gq))], H)) (C := []) rfl trivial ?_
    refine mw_cI (fun _ => rfl) trivial ((pv_hasL (d := (d + 2)) (k := x) h e hk0 hLb (by omega)).imp (fun _ _ z => has_alt (b := bts (lgf U 163 (sp % 64)) x) z)) (fun x6 H6 q6 => ?_)
    rcases q6 with ⟨rfl, hb6, rfl⟩ | ⟨rfl, hb6, rfl⟩
    · -- (1 : Int32)
      have hbx : B x = true := (hB x (by omega)).mpr hb6
      refine mw_if (P := (1 : Int32) = 0) (a := 118) (b := 81) (fun _ => rfl) trivial (fun h7 => absurd h7 (by decide)) (fun h7 => ?_)
      refine mw_go mu_g372 (k := 2) (f1 := (83, [(5, .inl (nI x)), (4, .inl (nI (cnb B x))), (0, .inr (.inr (some 158))), (1, .inl (5 : Int32)), (2, .inl (nI sp)), (3, .inr (.inr (some gq)))], [.inl (3 : Int32), .inl (5 : Int32)], H)) (C := []) rfl trivial ?_
      refine mw_if (P := (5 : Int32) = (3 : Int32)) (a := 86) (b := 101) (fun _ => rfl) trivial (fun h8 => absurd h8 (by decide)) (fun h8 => ?_)
      refine mw_go mu_g372 (k := 2) (f1 := (103, [(5, .inl (nI x)), (4, .inl (nI (cnb B x))), (0, .inr (.inr (some 158))), (1, .inl (5 : Int32)), (2, .inl (nI sp)), (3, .inr (.inr (some gq)))], [.inl (4 : Int32), .inl (5 : Int32)], H)) (C := []) rfl trivial ?_
      refine mw_if (P := (5 : Int32) = (4 : Int32)) (a := 106) (b := 115) (fun _ => rfl) trivial (fun h9 => absurd h9 (by decide)) (fun h9 => ?_)
      refine mw_go mu_g372 (k := 1) (f1 := (118, [(4, .inl ((nI (cnb B x)) + 1)), (5, .inl (nI x)), (0, .inr (.inr (some 158))), (1, .inl (5 : Int32)), (2, .inl (nI sp)), (3, .inr (.inr (some gq)))], [], H)) (C := []) rfl trivial ?_
      rw [(show ((nI (cnb B x)) + 1) = (nI ((cnb B x) + 1)) from (nI_add (cnb B x) 1))]
      rw [show (nI ((cnb B x) + 1)) = (nI (cnb B (x + 1))) from congrArg nI (by rw [cnb_yes hbx])]
      refine mw_go mu_g372 (k := 1) (f1 := (121, [(5, .inl ((nI x) + 1)), (4, .inl (nI (cnb B (x + 1)))), (0, .inr (.inr (some 158))), (1, .inl (5 : Int32)), (2, .inl (nI sp)), (3, .inr (.inr (some gq)))], [], H)) (C := []) rfl trivial ?_
      rw [(show ((nI x) + 1) = (nI (x + 1)) from (nI_add x 1))]
      refine mw_go mu_g372 (k := 1) (f1 := (60, [(5, .inl (nI (x + 1))), (4, .inl (nI (cnb B (x + 1)))), (0, .inr (.inr (some 158))), (1, .inl (5 : Int32)), (2, .inl (nI sp)), (3, .inr (.inr (some gq)))], [], H)) (C := []) rfl trivial ?_
      exact mw_sub (by simp) (iha (x + 1) (show (x + 1) ≤ T from (by omega)) (by show T - (x + 1) < T - x; omega))
    · -- (0 : Int32)
      have hbx : ¬ B x = true := fun y => by have z := (hB x (by omega)).mp y; rw [hb6] at z; cases z
      refine mw_if (P := (0 : Int32) = 0) (a := 118) (b := 81) (fun _ => rfl) trivial (fun h10 => ?_) (fun h10 => absurd (by decide) h10)
      rw [show (nI (cnb B x)) = (nI (cnb B (x + 1))) from congrArg nI (by rw [cnb_no hbx])]
      refine mw_go mu_g372 (k := 1) (f1 := (121, [(5, .inl ((nI x) + 1)), (4, .inl (nI (cnb B (x + 1)))), (0, .inr (.inr (some 158))), (1, .inl (5 : Int32)), (2, .inl (nI sp)), (3, .inr (.inr (some gq)))], [], H)) (C := []) rfl trivial ?_
      rw [(show ((nI x) + 1) = (nI (x + 1)) from (nI_add x 1))]
      refine mw_go mu_g372 (k := 1) (f1 := (60, [(5, .inl (nI (x + 1))), (4, .inl (nI (cnb B (x + 1)))), (0, .inr (.inr (some 158))), (1, .inl (5 : Int32)), (2, .inl (nI sp)), (3, .inr (.inr (some gq)))], [], H)) (C := []) rfl trivial ?_
      exact mw_sub (by simp) (iha (x + 1) (show (x + 1) ≤ T from (by omega)) (by show T - (x + 1) < T - x; omega))
  · -- 124: not (nI x) < (nI T)
    have nh5 : ¬ x < T := fun z => h5 (show nI x < nI T from (nI_ltI (by omega) (by omega)).mpr z)
    refine mw_go mu_g372 (k := 1) (f1 := (126, [(5, .inl (nI x)), (4, .inl (nI (cnb B x))), (0, .inr (.inr (some 158))), (1, .inl (5 : Int32)), (2, .inl (nI sp)), (3, .inr (.inr (some gq)))], [.inl (nI (cnb B x))], H)) (C := []) rfl trivial ?_
    exact mw_of (fun _ => mu_ret rfl trivial ⟨(nI (cnb B x)), H, rfl, congrArg (fun z => nI (cnb B z)) (show x = T by omega), rfl⟩)
end Tally
