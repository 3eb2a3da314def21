/-! The reference: Instance.param -/
/-- PathProverModel$Instance.param(Ljava/lang/String;)I -/
abbrev mu_m514 : ev_M := (3, (some .int), [], ev_b514)
theorem mu_g514 : mu_good mu_m514 := mu_goodk ev_k514
/-- the parameter of name b -/
def fpm (ps : List Tre) (b : List Int32) : Option Nat := fio (fun k => decide (nam (nth ps k) = b)) ps.length 0
theorem rp_param0 {d lv m s ip : Nat} {H : mu_H} {F : Nat → Prop} {y : Mdl} {b : List Int32} (hi15 : mu_is H (some ip) 15) (hi0 : mu_r H ip 0 = some m) (hm : mdf H F lv m y) (hw : alp prw y.2.1) (hs : stf H F s b) : ∀ m_ k, k + m_ = y.2.1.length → mu_W (mu_D (d + 3)) mu_m514 (2, [(2, .inl (nI k)), (1, .inr (.inr (some s))), (0, .inr (.inr (some ip)))], [], H) (fun r => ∃ x H1, r = (.inl (some (.inl x)), H1) ∧ x = oI (fio (fun k => decide (nam (nth y.2.1 k) = b)) m_ k) ∧ H1 = H)
  | 0, k, hm_ => by
    obtain ⟨mi1, ⟨mw1, mr0_1, ms1⟩, ⟨mp1, mr1_1, mpn1⟩, mq1, mr2_1, mqn1⟩ := mdf.rd (y := y) hm
    obtain ⟨kd2, ⟨is2, nF2, lt2⟩, ⟨st2, sr2, sf2⟩, ⟨n2_2, n3_2, n7_2⟩, nm2, ar2, aq2, aF2, ai2, ⟨al2, am2, ax2⟩, ch2, dp2⟩ := nd.rd (c := (tmk 62 0 [] y.2.1)) mpn1
    refine mw_go mu_g514 (k := 3) (f1 := (7, [(2, .inl (nI k)), (1, .inr (.inr (some s))), (0, .inr (.inr (some ip)))], [.inr (.inr (mu_r H ip 0)), .inl (nI k)], H)) (C := [mu_is H (some ip) 15]) rfl (show mu_is H (some ip) 15 from hi15) ?_
    refine mw_fr (f' := (7, [(2, .inl (nI k)), (1, .inr (.inr (some s))), (0, .inr (.inr (some ip)))], [.inr (.inr (some m)), .inl (nI k)], H)) (by first | (rw [hi0]; done) | (rw [hi0]; rfl)) ?_
    refine mw_go mu_g514 (k := 1) (f1 := (10, [(2, .inl (nI k)), (1, .inr (.inr (some s))), (0, .inr (.inr (some ip)))], [.inr (.inr (mu_r H m 1)), .inl (nI k)], H)) (C := [mu_is H (some m) 17]) rfl (show mu_is H (some m) 17 from mi1) ?_
    refine mw_fr (f' := (10, [(2, .inl (nI k)), (1, .inr (.inr (some s))), (0, .inr (.inr (some ip)))], [.inr (.inr (some mp1)), .inl (nI k)], H)) (by first | (rw [mr1_1]; done) | (rw [mr1_1]; rfl)) ?_
    refine mw_go mu_g514 (k := 1) (f1 := (13, [(2, .inl (nI k)), (1, .inr (.inr (some s))), (0, .inr (.inr (some ip)))], [.inl (mu_i H mp1 2), .inl (nI k)], H)) (C := [mu_is H (some mp1) 18]) rfl (show mu_is H (some mp1) 18 from is2) ?_
    refine mw_fr (f' := (13, [(2, .inl (nI k)), (1, .inr (.inr (some s))), (0, .inr (.inr (some ip)))], [.inl (nI y.2.1.length), .inl (nI k)], H)) (by first | (rw [n2_2]; done) | (rw [n2_2]; rfl)) ?_
    refine mw_if (P := (nI k) < (nI y.2.1.length)) (a := 16) (b := 48) (fun _ => rfl) trivial (fun h1 => absurd h1 (by rw [show k = y.2.1.length by omega]; exact Int32.lt_irrefl)) (fun h1 => ?_)
    refine mw_go mu_g514 (k := 1) (f1 := (49, [(2, .inl (nI k)), (1, .inr (.inr (some s))), (0, .inr (.inr (some ip)))], [.inl (-1 : Int32)], H)) (C := []) rfl trivial ?_
    exact mw_of (fun _ => mu_ret rfl trivial ⟨_, _, rfl, rfl, rfl⟩)
  | m_ + 1, k, hm_ => by
    obtain ⟨mi1, ⟨mw1, mr0_1, ms1⟩, ⟨mp1, mr1_1, mpn1⟩, mq1, mr2_1, mqn1⟩ := mdf.rd (y := y) hm
    obtain ⟨kd2, ⟨is2, nF2, lt2⟩, ⟨st2, sr2, sf2⟩, ⟨n2_2, n3_2, n7_2⟩, nm2, ar2, aq2, aF2, ai2, ⟨al2, am2, ax2⟩, ch2, dp2⟩ := nd.rd (c := (tmk 62 0 [] y.2.1)) mpn1
    have hk : k < y.2.1.length := by omega
    have hl : y.2.1.length ≤ 2 ^ 26 := Nat.le_trans al2 ax2
    have hp := (hw k hk).2.1
    have hp0 : 0 < (tns (nth y.2.1 k)).length := by rw [hp]; exact Nat.one_pos
    refine mw_go mu_g514 (k := 3) (f1 := (7, [(2, .inl (nI k)), (1, .inr (.inr (some s))), (0, .inr (.inr (some ip)))], [.inr (.inr (mu_r H ip 0)), .inl (nI k)], H)) (C := [mu_is H (some ip) 15]) rfl (show mu_is H (some ip) 15 from hi15) ?_
    refine mw_fr (f' := (7, [(2, .inl (nI k)), (1, .inr (.inr (some s))), (0, .inr (.inr (some ip)))], [.inr (.inr (some m)), .inl (nI k)], H)) (by first | (rw [hi0]; done) | (rw [hi0]; rfl)) ?_
    refine mw_go mu_g514 (k := 1) (f1 := (10, [(2, .inl (nI k)), (1, .inr (.inr (some s))), (0, .inr (.inr (some ip)))], [.inr (.inr (mu_r H m 1)), .inl (nI k)], H)) (C := [mu_is H (some m) 17]) rfl (show mu_is H (some m) 17 from mi1) ?_
    refine mw_fr (f' := (10, [(2, .inl (nI k)), (1, .inr (.inr (some s))), (0, .inr (.inr (some ip)))], [.inr (.inr (some mp1)), .inl (nI k)], H)) (by first | (rw [mr1_1]; done) | (rw [mr1_1]; rfl)) ?_
    refine mw_go mu_g514 (k := 1) (f1 := (13, [(2, .inl (nI k)), (1, .inr (.inr (some s))), (0, .inr (.inr (some ip)))], [.inl (mu_i H mp1 2), .inl (nI k)], H)) (C := [mu_is H (some mp1) 18]) rfl (show mu_is H (some mp1) 18 from is2) ?_
    refine mw_fr (f' := (13, [(2, .inl (nI k)), (1, .inr (.inr (some s))), (0, .inr (.inr (some ip)))], [.inl (nI y.2.1.length), .inl (nI k)], H)) (by first | (rw [n2_2]; done) | (rw [n2_2]; rfl)) ?_
    refine mw_if (P := (nI k) < (nI y.2.1.length)) (a := 16) (b := 48) (fun _ => rfl) trivial (fun h1 => ?_) (fun h1 => absurd (nI_lt hk (by omega)) h1)
    obtain ⟨p, yr3, yn3⟩ := ch2 k hk
    have yn3 : nd H F (lv - 1) p (nth y.2.1 k) := yn3
    obtain ⟨b1_3, b2_3, b3_3, b4_3⟩ := ar_at ai2 (by decide) (Nat.lt_of_lt_of_le hk al2) (Nat.lt_of_le_of_lt ax2 (by decide))
    have y2_3 : mu_r H ar2 (nI k).toNatClampNeg = some p := by rw [b4_3]; exact yr3
    obtain ⟨kd4, ⟨is4, nF4, lt4⟩, ⟨st4, sr4, sf4⟩, ⟨n2_4, n3_4, n7_4⟩, nm4, ar4, aq4, aF4, ai4, ⟨al4, am4, ax4⟩, ch4, dp4⟩ := nd.rd (c := (nth y.2.1 k)) yn3
    obtain ⟨nb5, nr5, nbF5, ni5, nn5, nl5, nk5⟩ := nm4.rd hp0
    obtain ⟨ns5, nz5, nf5⟩ := nk5 0 hp0
    obtain ⟨c1_5, c2_5, c3_5, c4_5⟩ := ar_at (i := 0) ni5 (by decide) (by rw [nn5]; exact hp0) (by rw [nn5]; omega)
    have nx5 : mu_r H nb5 (0 : Int32).toNatClampNeg = some ns5 := nz5
    refine mw_go mu_g514 (k := 2) (f1 := (20, [(2, .inl (nI k)), (1, .inr (.inr (some s))), (0, .inr (.inr (some ip)))], [.inr (.inr (mu_r H ip 0))], H)) (C := [mu_is H (some ip) 15]) rfl (show mu_is H (some ip) 15 from hi15) ?_
    refine mw_fr (f' := (20, [(2, .inl (nI k)), (1, .inr (.inr (some s))), (0, .inr (.inr (some ip)))], [.inr (.inr (some m))], H)) (by first | (rw [hi0]; done) | (rw [hi0]; rfl)) ?_
    refine mw_go mu_g514 (k := 1) (f1 := (23, [(2, .inl (nI k)), (1, .inr (.inr (some s))), (0, .inr (.inr (some ip)))], [.inr (.inr (mu_r H m 1))], H)) (C := [mu_is H (some m) 17]) rfl (show mu_is H (some m) 17 from mi1) ?_
    refine mw_fr (f' := (23, [(2, .inl (nI k)), (1, .inr (.inr (some s))), (0, .inr (.inr (some ip)))], [.inr (.inr (some mp1))], H)) (by first | (rw [mr1_1]; done) | (rw [mr1_1]; rfl)) ?_
    refine mw_go mu_g514 (k := 1) (f1 := (26, [(2, .inl (nI k)), (1, .inr (.inr (some s))), (0, .inr (.inr (some ip)))], [.inr (.inr (mu_r H mp1 1))], H)) (C := [mu_is H (some mp1) 18]) rfl (show mu_is H (some mp1) 18 from is2) ?_
    refine mw_fr (f' := (26, [(2, .inl (nI k)), (1, .inr (.inr (some s))), (0, .inr (.inr (some ip)))], [.inr (.inr (some ar2))], H)) (by first | (rw [aq2]; done) | (rw [aq2]; rfl)) ?_
    refine mw_go mu_g514 (k := 2) (f1 := (28, [(2, .inl (nI k)), (1, .inr (.inr (some s))), (0, .inr (.inr (some ip)))], [.inr (.inr (mu_r H ar2 (nI k).toNatClampNeg))], H)) (C := [mu_is H (some ar2) (mu_k H ar2), 103 ≤ mu_k H ar2 ∧ mu_k H ar2 ≤ 110 ∧ mu_k H ar2 ≠ 108, vp_in (nI k) (mu_n H ar2)]) rfl (show (mu_is H (some ar2) (mu_k H ar2)) ∧ (103 ≤ mu_k H ar2 ∧ mu_k H ar2 ≤ 110 ∧ mu_k H ar2 ≠ 108) ∧ (vp_in (nI k) (mu_n H ar2)) from ⟨b1_3, b2_3, b3_3⟩) ?_
    refine mw_fr (f' := (28, [(2, .inl (nI k)), (1, .inr (.inr (some s))), (0, .inr (.inr (some ip)))], [.inr (.inr (some p))], H)) (by first | (rw [y2_3]; done) | (rw [y2_3]; rfl)) ?_
    refine mw_go mu_g514 (k := 1) (f1 := (31, [(2, .inl (nI k)), (1, .inr (.inr (some s))), (0, .inr (.inr (some ip)))], [.inr (.inr (mu_r H p 4))], H)) (C := [mu_is H (some p) 18]) rfl (show mu_is H (some p) 18 from is4) ?_
    refine mw_fr (f' := (31, [(2, .inl (nI k)), (1, .inr (.inr (some s))), (0, .inr (.inr (some ip)))], [.inr (.inr (some nb5))], H)) (by first | (rw [nr5]; done) | (rw [nr5]; rfl)) ?_
    refine mw_go mu_g514 (k := 2) (f1 := (33, [(2, .inl (nI k)), (1, .inr (.inr (some s))), (0, .inr (.inr (some ip)))], [.inr (.inr (mu_r H nb5 (0 : Int32).toNatClampNeg))], H)) (C := [mu_is H (some nb5) (mu_k H nb5), 103 ≤ mu_k H nb5 ∧ mu_k H nb5 ≤ 110 ∧ mu_k H nb5 ≠ 108, vp_in (0 : Int32) (mu_n H nb5)]) rfl (show (mu_is H (some nb5) (mu_k H nb5)) ∧ (103 ≤ mu_k H nb5 ∧ mu_k H nb5 ≤ 110 ∧ mu_k H nb5 ≠ 108) ∧ (vp_in (0 : Int32) (mu_n H nb5)) from ⟨c1_5, c2_5, c3_5⟩) ?_
    refine mw_fr (f' := (33, [(2, .inl (nI k)), (1, .inr (.inr (some s))), (0, .inr (.inr (some ip)))], [.inr (.inr (some ns5))], H)) (by first | (rw [nx5]; done) | (rw [nx5]; rfl)) ?_
    refine mw_go mu_g514 (k := 1) (f1 := (34, [(2, .inl (nI k)), (1, .inr (.inr (some s))), (0, .inr (.inr (some ip)))], [.inr (.inr (some s)), .inr (.inr (some ns5))], H)) (C := []) rfl trivial ?_
    refine mw_cS rfl (by decide) nf5.1.1 (sb_equals (d := d + 1) nf5.1 hs.1 (Nat.lt_trans nf5.2.2 (by decide)) (Nat.lt_trans hs.2.2 (by decide))) (fun x9 H9 q9 => ?_)
    rw [q9.1, q9.2]
    clear q9 H9 x9
    show mu_W _ mu_m514 (37, [(2, .inl (nI k)), (1, .inr (.inr (some s))), (0, .inr (.inr (some ip)))], [.inl (if (nam (nth y.2.1 k)) = b then 1 else 0)], H) _
    refine mw_if (P := (if (nam (nth y.2.1 k)) = b then 1 else 0) = 0) (a := 42) (b := 40) (fun _ => rfl) trivial (fun hi6 => ?_) (fun hi6 => ?_)
    · -- 42
      have ek6 : ¬ (nam (nth y.2.1 k)) = b := fun e => by rw [if_pos e] at hi6; exact absurd hi6 (by decide)
      refine mw_go mu_g514 (k := 2) (f1 := (2, [(2, .inl ((nI k) + 1)), (1, .inr (.inr (some s))), (0, .inr (.inr (some ip)))], [], H)) (C := []) rfl trivial ?_
      refine mw_sub (L' := [(2, .inl (nI (k + 1))), (1, .inr (.inr (some s))), (0, .inr (.inr (some ip)))]) (by intro x hx; simp only [List.mem_cons, List.not_mem_nil, or_false] at hx ⊢; rcases hx with rfl | rfl | rfl <;> simp [nI_add, show (1 : Int32) = nI 1 from rfl]) ?_
      rw [fio, if_neg (show ¬ decide (nam (nth y.2.1 k) = b) = true by rw [decide_eq_true_iff]; exact ek6)]
      exact rp_param0 hi15 hi0 hm hw hs m_ (k + 1) (by omega)
    · -- 40
      have ek6 : (nam (nth y.2.1 k)) = b := Decidable.byContradiction (fun e => hi6 (if_neg e))
      refine mw_go mu_g514 (k := 1) (f1 := (41, [(2, .inl (nI k)), (1, .inr (.inr (some s))), (0, .inr (.inr (some ip)))], [.inl (nI k)], H)) (C := []) rfl trivial ?_
      exact mw_of (fun _ => mu_ret rfl trivial ⟨_, _, rfl, (by rw [fio, if_pos (show decide (nam (nth y.2.1 k) = b) = true by rw [decide_eq_true_iff]; exact ek6)]; rfl), rfl⟩)
theorem rp_param {d lv m s ip : Nat} {H : mu_H} {F : Nat → Prop} {y : Mdl} {b : List Int32} (hi15 : mu_is H (some ip) 15) (hi0 : mu_r H ip 0 = some m) (hm : mdf H F lv m y) (hw : alp prw y.2.1) (hs : stf H F s b) : mu_TI (mu_D (d + 4)) 514 [.inr (.inr (some ip)), .inr (.inr (some s))] H (fun x H1 => x = oI (fpm y.2.1 b) ∧ H1 = H) := by
  refine mu_meth (M := mu_m514) rfl rfl ?_
  refine mw_ht (mu_fn_of (show [0, 1].Nodup by decide)) ?_
  refine mw_go mu_g514 (k := 2) (f1 := (2, [(2, .inl (0 : Int32)), (0, .inr (.inr (some ip))), (1, .inr (.inr (some s)))], [], H)) (C := []) rfl trivial ?_
  refine mw_sub (L' := [(2, .inl (nI 0)), (1, .inr (.inr (some s))), (0, .inr (.inr (some ip)))]) (by simp [nI]) ?_
  exact rp_param0 hi15 hi0 hm hw hs y.2.1.length 0 (Nat.zero_add _)
