/-! The reference: is, kept, atName, can, expect, name, nest -/
/-- PathProverModel.is(Ljava/lang/String;)Z -/
abbrev mu_m55 : ev_M := (2, (some .boolean), [], ev_b55)
theorem mu_g55 : mu_good mu_m55 := mu_goodk ev_k55
/-- PathProverModel.kept()Z -/
abbrev mu_m505 : ev_M := (5, (some .boolean), [], ev_b505)
theorem mu_g505 : mu_good mu_m505 := mu_goodk ev_k505
/-- PathProverModel.atName()Z -/
abbrev mu_m504 : ev_M := (1, (some .boolean), [], ev_b504)
theorem mu_g504 : mu_good mu_m504 := mu_goodk ev_k504
/-- PathProverModel.can(Z)Z -/
abbrev mu_m56 : ev_M := (2, (some .boolean), [], ev_b56)
theorem mu_g56 : mu_good mu_m56 := mu_goodk ev_k56
/-- PathProverModel.expect(Ljava/lang/String;)V -/
abbrev mu_m54 : ev_M := (3, none, [], ev_b54)
theorem mu_g54 : mu_good mu_m54 := mu_goodk ev_k54
/-- PathProverModel.name()Ljava/lang/String; -/
abbrev mu_m486 : ev_M := (3, (some (.object "java/lang/String")), [], ev_b486)
theorem mu_g486 : mu_good mu_m486 := mu_goodk ev_k486
/-- PathProverModel.nest()V -/
abbrev mu_m496 : ev_M := (2, none, [], ev_b496)
theorem mu_g496 : mu_good mu_m496 := mu_goodk ev_k496
/-- the number of the sign -/
def tks (t : Int32 × Nat × Nat) : Nat := t.1.toInt.toNat - 10
theorem tks_nI {s : Nat} {x : Nat × Nat} (h : s < 27) : tks (nI (10 + s), x) = s := by
  unfold tks
  rw [show (nI (10 + s)).toInt = ((10 + s : Nat) : Int) from Int32.toInt_ofNat_of_lt (by omega)]
  omega
/-- is: the token has the letters b -/
def tis (T : Nat → Int32) (t : Int32 × Nat × Nat) (b : List Int32) : Int32 := if t.1 = 2 then (if slc T t.2.1 t.2.2 = b then 1 else 0) else if t.1 < 10 then 0 else (if sgt (tks t) = b then 1 else 0)
theorem tis_01 {T : Nat → Int32} {t : Int32 × Nat × Nat} {b : List Int32} : tis T t b = 0 ∨ tis T t b = 1 := by
  unfold tis
  by_cases e1 : t.1 = 2
  · rw [if_pos e1]
    by_cases e2 : slc T t.2.1 t.2.2 = b
    · rw [if_pos e2]; exact Or.inr rfl
    · rw [if_neg e2]; exact Or.inl rfl
  · rw [if_neg e1]
    by_cases e2 : t.1 < 10
    · rw [if_pos e2]; exact Or.inl rfl
    · rw [if_neg e2]
      by_cases e3 : sgt (tks t) = b
      · rw [if_pos e3]; exact Or.inr rfl
      · rw [if_neg e3]; exact Or.inl rfl
theorem tkf.sg {n : Nat} {t : Int32 × Nat × Nat} (h : tkf n t) (h2 : ¬ t.1 < 10) : tks t < 27 ∧ t.1 - 10 = nI (tks t) := by
  obtain ⟨t1, t2⟩ := t
  rcases h.1 with e | e | e | e | ⟨s, hs, e⟩
  · exact absurd (show t1 < 10 by rw [show t1 = 0 from e]; decide) h2
  · exact absurd (show t1 < 10 by rw [show t1 = 1 from e]; decide) h2
  · exact absurd (show t1 < 10 by rw [show t1 = 2 from e]; decide) h2
  · exact absurd (show t1 < 10 by rw [show t1 = 3 from e]; decide) h2
  · have e : t1 = nI (10 + s) := e
    subst e
    rw [tks_nI hs]
    refine ⟨hs, ?_⟩
    show nI (10 + s) - nI 10 = nI s
    rw [rI_sub (by omega), Nat.add_sub_cancel_left]
theorem rp_is {d n dep : Nat} {T : Nat → Int32} {t : Int32 × Nat × Nat} {F : Nat → Prop} {H : mu_H} (h : pst T n t dep F H) {o : Option Nat} {b : List Int32} (ho : sb H o b) (hb : b.length < 2 ^ 31) : mu_TI (mu_D (d + 3)) 55 [.inr (.inr (some 169)), .inr (.inr o)] H (fun x H1 => x = tis T t b ∧ H1 = H) := by
  refine mu_MT.ot fun hot => ?_
  refine mu_meth (M := mu_m55) rfl rfl ?_
  refine mw_ht (mu_fn_of (show [0, 1].Nodup by decide)) ?_
  refine mw_go mu_g55 (k := 3) (f1 := (5, [(0, .inr (.inr (some 169))), (1, .inr (.inr o))], [.inl (2 : Int32), .inl (mu_i H 169 7)], H)) (C := [mu_is H (some 169) 1]) rfl (show mu_is H (some 169) 1 from h.is) ?_
  refine mw_fr (f' := (5, [(0, .inr (.inr (some 169))), (1, .inr (.inr o))], [.inl (2 : Int32), .inl t.1], H)) (by first | (rw [h.f7]; done) | (rw [h.f7]; rfl)) ?_
  refine mw_if (P := t.1 = (2 : Int32)) (a := 8) (b := 17) (fun _ => rfl) trivial (fun h1 => ?_) (fun h1 => ?_)
  · -- 8
    obtain ⟨q, w, b1, b2, b3, b4, b5⟩ := h.wd h1
    refine mw_go mu_g55 (k := 3) (f1 := (13, [(0, .inr (.inr (some 169))), (1, .inr (.inr o))], [.inr (.inr o), .inr (.inr (mu_r H 169 11))], H)) (C := [mu_is H (some 169) 1]) rfl (show mu_is H (some 169) 1 from h.is) ?_
    refine mw_fr (f' := (13, [(0, .inr (.inr (some 169))), (1, .inr (.inr o))], [.inr (.inr o), .inr (.inr (some q))], H)) (by first | (rw [b1]; done) | (rw [b1]; rfl)) ?_
    refine mw_cS rfl (by decide) b5.1 (sb_equals (d := d) b5 ho (by rw [slc_len]; have := h.tkf.2.2; have := h.nn; omega) hb) (fun x H1 q => ?_)
    rw [q.1, q.2]
    refine mw_of (fun _ => mu_ret rfl (by split; exact Or.inr rfl; exact Or.inl rfl) ⟨_, _, rfl, ?_, rfl⟩)
    unfold tis
    rw [if_pos h1]
  · -- 17
    refine mw_go mu_g55 (k := 3) (f1 := (23, [(0, .inr (.inr (some 169))), (1, .inr (.inr o))], [.inl (10 : Int32), .inl (mu_i H 169 7)], H)) (C := [mu_is H (some 169) 1]) rfl (show mu_is H (some 169) 1 from h.is) ?_
    refine mw_fr (f' := (23, [(0, .inr (.inr (some 169))), (1, .inr (.inr o))], [.inl (10 : Int32), .inl t.1], H)) (by first | (rw [h.f7]; done) | (rw [h.f7]; rfl)) ?_
    refine mw_if (P := t.1 < (10 : Int32)) (a := 49) (b := 26) (fun _ => rfl) trivial (fun h2 => ?_) (fun h2 => ?_)
    · -- 49
      refine mw_go mu_g55 (k := 1) (f1 := (50, [(0, .inr (.inr (some 169))), (1, .inr (.inr o))], [.inl (0 : Int32)], H)) (C := []) rfl trivial ?_
      exact mw_of (fun _ => mu_ret rfl (Or.inl rfl) ⟨_, _, rfl, (by unfold tis; rw [if_neg h1, if_pos h2]), rfl⟩)
    · -- 26
      obtain ⟨k1, k2⟩ := h.tkf.sg h2
      have k3 := h.1.2.2.2.1
      refine mw_go mu_g55 (k := 6) (f1 := (37, [(0, .inr (.inr (some 169))), (1, .inr (.inr o))], [.inl ((mu_i H 169 7) - (10 : Int32)), .inr (.inr (mu_r H 169 4))], H)) (C := [mu_is H (some 169) 1, mu_is H (some 169) 1]) rfl (show (mu_is H (some 169) 1) ∧ (mu_is H (some 169) 1) from ⟨h.is, h.is⟩) ?_
      refine mw_fr (f' := (37, [(0, .inr (.inr (some 169))), (1, .inr (.inr o))], [.inl (nI (tks t)), .inr (.inr (some 171))], H)) (by first | (rw [h.f7, h.1.2.2.2.1.1, k2]; done) | (rw [h.f7, h.1.2.2.2.1.1, k2]; rfl)) ?_
      have k4 : mu_is H (some 171) (mu_k H 171) := ⟨rfl, Nat.lt_trans (by decide) h.1.1, rfl⟩
      have k5 : 103 ≤ mu_k H 171 ∧ mu_k H 171 ≤ 110 ∧ mu_k H 171 ≠ 108 := by rw [k3.2.1]; decide
      have k6 : vp_in (nI (tks t)) (mu_n H 171) := by rw [k3.2.2.1]; exact vp_in_nI k1 (by decide)
      have k7 : mu_r H 171 (nI (tks t)).toNatClampNeg = some (1000000 + (1 + tks t)) := by rw [nI_clamp (show tks t < 2 ^ 31 by omega), k3.2.2.2 (tks t) k1, show 1000001 + tks t = 1000000 + (1 + tks t) by omega]
      have k8 : sb H (some (1000000 + (1 + tks t))) (sgt (tks t)) := sb_lit hot (show 1 + tks t < 79 by omega)
      refine mw_go mu_g55 (k := 1) (f1 := (38, [(0, .inr (.inr (some 169))), (1, .inr (.inr o))], [.inr (.inr (mu_r H 171 (nI (tks t)).toNatClampNeg))], H)) (C := [mu_is H (some 171) (mu_k H 171), 103 ≤ mu_k H 171 ∧ mu_k H 171 ≤ 110 ∧ mu_k H 171 ≠ 108, vp_in (nI (tks t)) (mu_n H 171)]) rfl (show (mu_is H (some 171) (mu_k H 171)) ∧ (103 ≤ mu_k H 171 ∧ mu_k H 171 ≤ 110 ∧ mu_k H 171 ≠ 108) ∧ (vp_in (nI (tks t)) (mu_n H 171)) from ⟨k4, k5, k6⟩) ?_
      refine mw_fr (f' := (38, [(0, .inr (.inr (some 169))), (1, .inr (.inr o))], [.inr (.inr (some (1000000 + (1 + tks t))))], H)) (by first | (rw [k7]; done) | (rw [k7]; rfl)) ?_
      refine mw_go mu_g55 (k := 1) (f1 := (39, [(0, .inr (.inr (some 169))), (1, .inr (.inr o))], [.inr (.inr o), .inr (.inr (some (1000000 + (1 + tks t))))], H)) (C := []) rfl trivial ?_
      refine mw_cS rfl (by decide) k8.1 (sb_equals (d := d) k8 ho (Nat.lt_trans (sgt_len _ k1).2 (by decide)) hb) (fun x H1 q => ?_)
      rw [q.1, q.2]
      refine mw_if (P := (if sgt (tks t) = b then 1 else 0) = 0) (a := 49) (b := 45) (fun _ => rfl) trivial (fun h3 => ?_) (fun h3 => ?_)
      · -- 49
        refine mw_go mu_g55 (k := 1) (f1 := (50, [(0, .inr (.inr (some 169))), (1, .inr (.inr o))], [.inl (0 : Int32)], H)) (C := []) rfl trivial ?_
        exact mw_of (fun _ => mu_ret rfl (Or.inl rfl) ⟨_, _, rfl, (by unfold tis; rw [if_neg h1, if_neg h2]; exact h3.symm), rfl⟩)
      · -- 45
        refine mw_go mu_g55 (k := 2) (f1 := (50, [(0, .inr (.inr (some 169))), (1, .inr (.inr o))], [.inl (1 : Int32)], H)) (C := []) rfl trivial ?_
        exact mw_of (fun _ => mu_ret rfl (Or.inr rfl) ⟨_, _, rfl, (by unfold tis; rw [if_neg h1, if_neg h2, if_pos (Decidable.byContradiction (fun e => h3 (if_neg e)))]), rfl⟩)
/-- is, of a constant -/
theorem rp_isL {d n dep : Nat} {T : Nat → Int32} {t : Int32 × Nat × Nat} {F : Nat → Prop} {H : mu_H} (h : pst T n t dep F H) {j : Nat} (hj : j < 79) : mu_TI (mu_D (d + 3)) 55 [.inr (.inr (some 169)), .inr (.inr (some (1000000 + j)))] H (fun x H1 => x = tis T t (txt j) ∧ H1 = H) :=
  mu_MT.ot fun hot => rp_is (d := d) h (sb_lit hot hj) (Nat.lt_trans (txt_len j hj) (by decide))
/-- whether b is one of the kept words -/
def ktz (b : List Int32) : Nat → Nat → Int32
  | 0, _ => 0
  | m + 1, s => if txt (28 + s) = b then 1 else ktz b m (s + 1)
theorem ktz_01 {b : List Int32} : ∀ m s, ktz b m s = 0 ∨ ktz b m s = 1
  | 0, _ => Or.inl rfl
  | m + 1, s => by
    rw [ktz]
    split
    · exact Or.inr rfl
    · exact ktz_01 m (s + 1)
theorem rp_kept0 {d n dep : Nat} {T : Nat → Int32} {t : Int32 × Nat × Nat} {F : Nat → Prop} {H : mu_H} (h : pst T n t dep F H) (hot : mu_ot H) {q : Nat} {b : List Int32} (b1 : mu_r H 169 11 = some q) (b5 : sb H (some q) b) (hb : b.length < 2 ^ 31) : ∀ m s, s + m = 28 → mu_W (mu_D (d + 2)) mu_m505 (10, [(3, .inl (nI s)), (2, .inl (nI 28)), (1, .inr (.inr (some 172))), (0, .inr (.inr (some 169)))], [], H) (fun r => ∃ x H1, r = (.inl (some (.inl x)), H1) ∧ x = ktz b m s ∧ H1 = H)
  | 0, s, hm => by
    refine mw_go mu_g505 (k := 2) (f1 := (12, [(3, .inl (nI s)), (2, .inl (nI 28)), (1, .inr (.inr (some 172))), (0, .inr (.inr (some 169)))], [.inl (nI 28), .inl (nI s)], H)) (C := []) rfl trivial ?_
    refine mw_if (P := (nI s) < (nI 28)) (a := 15) (b := 40) (fun _ => rfl) trivial (fun h1 => absurd h1 (by rw [show s = 28 by omega]; decide)) (fun h1 => ?_)
    refine mw_go mu_g505 (k := 1) (f1 := (41, [(3, .inl (nI s)), (2, .inl (nI 28)), (1, .inr (.inr (some 172))), (0, .inr (.inr (some 169)))], [.inl (0 : Int32)], H)) (C := []) rfl trivial ?_
    exact mw_of (fun _ => mu_ret rfl (Or.inl rfl) ⟨_, _, rfl, rfl, rfl⟩)
  | m + 1, s, hm => by
    have k3 := h.1.2.2.2.2.1
    have hs : s < 28 := by omega
    have k4 : mu_is H (some 172) (mu_k H 172) := ⟨rfl, Nat.lt_trans (by decide) h.1.1, rfl⟩
    have k5 : 103 ≤ mu_k H 172 ∧ mu_k H 172 ≤ 110 ∧ mu_k H 172 ≠ 108 := by rw [k3.2.1]; decide
    have k6 : vp_in (nI s) (mu_n H 172) := by rw [k3.2.2.1]; exact vp_in_nI hs (by decide)
    have k7 : mu_r H 172 (nI s).toNatClampNeg = some (1000000 + (28 + s)) := by rw [nI_clamp (show s < 2 ^ 31 by omega), k3.2.2.2 s hs, show 1000028 + s = 1000000 + (28 + s) by omega]
    have k8 : sb H (some (1000000 + (28 + s))) (txt (28 + s)) := sb_lit hot (show 28 + s < 79 by omega)
    refine mw_go mu_g505 (k := 2) (f1 := (12, [(3, .inl (nI s)), (2, .inl (nI 28)), (1, .inr (.inr (some 172))), (0, .inr (.inr (some 169)))], [.inl (nI 28), .inl (nI s)], H)) (C := []) rfl trivial ?_
    refine mw_if (P := (nI s) < (nI 28)) (a := 15) (b := 40) (fun _ => rfl) trivial (fun h1 => ?_) (fun h1 => absurd (show nI s < nI 28 from nI_lt hs (by decide)) h1)
    refine mw_go mu_g505 (k := 4) (f1 := (20, [(4, .inr (.inr (mu_r H 172 (nI s).toNatClampNeg))), (3, .inl (nI s)), (2, .inl (nI 28)), (1, .inr (.inr (some 172))), (0, .inr (.inr (some 169)))], [], H)) (C := [mu_is H (some 172) (mu_k H 172), 103 ≤ mu_k H 172 ∧ mu_k H 172 ≤ 110 ∧ mu_k H 172 ≠ 108, vp_in (nI s) (mu_n H 172)]) rfl (show (mu_is H (some 172) (mu_k H 172)) ∧ (103 ≤ mu_k H 172 ∧ mu_k H 172 ≤ 110 ∧ mu_k H 172 ≠ 108) ∧ (vp_in (nI s) (mu_n H 172)) from ⟨k4, k5, k6⟩) ?_
    refine mw_fr (f' := (20, [(4, .inr (.inr (some (1000000 + (28 + s))))), (3, .inl (nI s)), (2, .inl (nI 28)), (1, .inr (.inr (some 172))), (0, .inr (.inr (some 169)))], [], H)) (by first | (rw [k7]; done) | (rw [k7]; rfl)) ?_
    refine mw_go mu_g505 (k := 3) (f1 := (26, [(4, .inr (.inr (some (1000000 + (28 + s))))), (3, .inl (nI s)), (2, .inl (nI 28)), (1, .inr (.inr (some 172))), (0, .inr (.inr (some 169)))], [.inr (.inr (mu_r H 169 11)), .inr (.inr (some (1000000 + (28 + s))))], H)) (C := [mu_is H (some 169) 1]) rfl (show mu_is H (some 169) 1 from h.is) ?_
    refine mw_fr (f' := (26, [(4, .inr (.inr (some (1000000 + (28 + s))))), (3, .inl (nI s)), (2, .inl (nI 28)), (1, .inr (.inr (some 172))), (0, .inr (.inr (some 169)))], [.inr (.inr (some q)), .inr (.inr (some (1000000 + (28 + s))))], H)) (by first | (rw [b1]; done) | (rw [b1]; rfl)) ?_
    refine mw_cS rfl (by decide) k8.1 (sb_equals (d := d) k8 b5 (Nat.lt_trans (txt_len _ (by omega)) (by decide)) hb) (fun x H1 q => ?_)
    rw [q.1, q.2]
    refine mw_if (P := (if txt (28 + s) = b then 1 else 0) = 0) (a := 34) (b := 32) (fun _ => rfl) trivial (fun h2 => ?_) (fun h2 => ?_)
    · -- 34
      refine mw_go mu_g505 (k := 2) (f1 := (10, [(3, .inl ((nI s) + 1)), (4, .inr (.inr (some (1000000 + (28 + s))))), (2, .inl (nI 28)), (1, .inr (.inr (some 172))), (0, .inr (.inr (some 169)))], [], H)) (C := []) rfl trivial ?_
      refine mw_sub (L' := [(3, .inl (nI (s + 1))), (2, .inl (nI 28)), (1, .inr (.inr (some 172))), (0, .inr (.inr (some 169)))]) (by intro x hx; simp only [List.mem_cons, List.not_mem_nil, or_false] at hx ⊢; rcases hx with rfl | rfl | rfl | rfl <;> simp [nI_add, show (1 : Int32) = nI 1 from rfl]) ?_
      have e : ¬ txt (28 + s) = b := fun e => by rw [if_pos e] at h2; exact absurd h2 (by decide)
      rw [ktz, if_neg e]
      exact rp_kept0 h hot b1 b5 hb m (s + 1) (by omega)
    · -- 32
      refine mw_go mu_g505 (k := 1) (f1 := (33, [(4, .inr (.inr (some (1000000 + (28 + s))))), (3, .inl (nI s)), (2, .inl (nI 28)), (1, .inr (.inr (some 172))), (0, .inr (.inr (some 169)))], [.inl (1 : Int32)], H)) (C := []) rfl trivial ?_
      have e : txt (28 + s) = b := Decidable.byContradiction (fun e => h2 (if_neg e))
      exact mw_of (fun _ => mu_ret rfl (Or.inr rfl) ⟨_, _, rfl, (by rw [ktz, if_pos e]), rfl⟩)
theorem rp_kept {d n dep : Nat} {T : Nat → Int32} {t : Int32 × Nat × Nat} {F : Nat → Prop} {H : mu_H} (h : pst T n t dep F H) {q : Nat} {b : List Int32} (b1 : mu_r H 169 11 = some q) (b5 : sb H (some q) b) (hb : b.length < 2 ^ 31) : mu_TI (mu_D (d + 3)) 505 [.inr (.inr (some 169))] H (fun x H1 => x = ktz b 28 0 ∧ H1 = H) := by
  refine mu_MT.ot fun hot => ?_
  refine mu_meth (M := mu_m505) rfl rfl ?_
  refine mw_ht (mu_fn_of (show [0].Nodup by decide)) ?_
  have k3 := h.1.2.2.2.2.1
  have k4 : mu_isr H (some 172) (mu_k H 172) := ⟨rfl, Or.inl (Nat.lt_trans (by decide) h.1.1), rfl⟩
  have k5 : 100 ≤ mu_k H 172 := by rw [k3.2.1]; decide
  have k9 : Int32.ofNat (mu_n H 172) = nI 28 := by rw [k3.2.2.1]; rfl
  refine mw_go mu_g505 (k := 3) (f1 := (5, [(1, .inr (.inr (mu_r H 169 5))), (0, .inr (.inr (some 169)))], [], H)) (C := [mu_is H (some 169) 1]) rfl (show mu_is H (some 169) 1 from h.is) ?_
  refine mw_fr (f' := (5, [(1, .inr (.inr (some 172))), (0, .inr (.inr (some 169)))], [], H)) (by first | (rw [h.1.2.2.2.2.1.1]; done) | (rw [h.1.2.2.2.2.1.1]; rfl)) ?_
  refine mw_go mu_g505 (k := 5) (f1 := (10, [(3, .inl (0 : Int32)), (2, .inl (Int32.ofNat (mu_n H 172))), (1, .inr (.inr (some 172))), (0, .inr (.inr (some 169)))], [], H)) (C := [mu_isr H (some 172) (mu_k H 172), 100 ≤ mu_k H 172]) rfl (show (mu_isr H (some 172) (mu_k H 172)) ∧ (100 ≤ mu_k H 172) from ⟨k4, k5⟩) ?_
  refine mw_fr (f' := (10, [(3, .inl (0 : Int32)), (2, .inl (nI 28)), (1, .inr (.inr (some 172))), (0, .inr (.inr (some 169)))], [], H)) (by first | (rw [k9]; done) | (rw [k9]; rfl)) ?_
  refine mw_sub (L' := [(3, .inl (nI 0)), (2, .inl (nI 28)), (1, .inr (.inr (some 172))), (0, .inr (.inr (some 169)))]) (by simp [nI]) ?_
  exact rp_kept0 h hot b1 b5 hb 28 0 rfl
/-- atName: a word that is not kept -/
def nmz (T : Nat → Int32) (t : Int32 × Nat × Nat) : Int32 := if t.1 = 2 then (if ktz (slc T t.2.1 t.2.2) 28 0 = 0 then 1 else 0) else 0
theorem nmz_01 {T : Nat → Int32} {t : Int32 × Nat × Nat} : nmz T t = 0 ∨ nmz T t = 1 := by
  unfold nmz
  by_cases e1 : t.1 = 2
  · rw [if_pos e1]
    by_cases e2 : ktz (slc T t.2.1 t.2.2) 28 0 = 0
    · rw [if_pos e2]; exact Or.inr rfl
    · rw [if_neg e2]; exact Or.inl rfl
  · rw [if_neg e1]; exact Or.inl rfl
theorem nmz_2 {T : Nat → Int32} {t : Int32 × Nat × Nat} (h : ¬ nmz T t = 0) : t.1 = 2 := Decidable.byContradiction (fun e => h (if_neg e))
theorem tis_ne {T : Nat → Int32} {t : Int32 × Nat × Nat} {b : List Int32} (h : ¬ tis T t b = 0) : t.1 ≠ 0 ∧ t.1 ≠ 1 := by
  refine ⟨fun e => h ?_, fun e => h ?_⟩
  all_goals
    unfold tis
    rw [e]
    rfl
theorem rp_atName {d n dep : Nat} {T : Nat → Int32} {t : Int32 × Nat × Nat} {F : Nat → Prop} {H : mu_H} (h : pst T n t dep F H) : mu_TI (mu_D (d + 4)) 504 [.inr (.inr (some 169))] H (fun x H1 => x = nmz T t ∧ H1 = H) := by
  refine mu_meth (M := mu_m504) rfl rfl ?_
  refine mw_ht (mu_fn_of (show [0].Nodup by decide)) ?_
  refine mw_go mu_g504 (k := 3) (f1 := (5, [(0, .inr (.inr (some 169)))], [.inl (2 : Int32), .inl (mu_i H 169 7)], H)) (C := [mu_is H (some 169) 1]) rfl (show mu_is H (some 169) 1 from h.is) ?_
  refine mw_fr (f' := (5, [(0, .inr (.inr (some 169)))], [.inl (2 : Int32), .inl t.1], H)) (by first | (rw [h.f7]; done) | (rw [h.f7]; rfl)) ?_
  refine mw_if (P := t.1 = (2 : Int32)) (a := 8) (b := 19) (fun _ => rfl) trivial (fun h1 => ?_) (fun h1 => ?_)
  · -- 8
    obtain ⟨q, w, b1, b2, b3, b4, b5⟩ := h.wd h1
    refine mw_go mu_g504 (k := 1) (f1 := (9, [(0, .inr (.inr (some 169)))], [.inr (.inr (some 169))], H)) (C := []) rfl trivial ?_
    refine mw_cIe (fun _ => rfl) (show mu_is H (some 169) 1 from h.is) (rp_kept h b1 b5 (by rw [slc_len]; have := h.tkf.2.2; have := h.nn; omega)) ?_
    refine mw_if (P := (ktz (slc T t.2.1 t.2.2) 28 0) = 0) (a := 15) (b := 19) (fun _ => rfl) trivial (fun h2 => ?_) (fun h2 => ?_)
    · -- 15
      refine mw_go mu_g504 (k := 2) (f1 := (20, [(0, .inr (.inr (some 169)))], [.inl (1 : Int32)], H)) (C := []) rfl trivial ?_
      exact mw_of (fun _ => mu_ret rfl (Or.inr rfl) ⟨_, _, rfl, (by unfold nmz; rw [if_pos h1, if_pos h2]), rfl⟩)
    · -- 19
      refine mw_go mu_g504 (k := 1) (f1 := (20, [(0, .inr (.inr (some 169)))], [.inl (0 : Int32)], H)) (C := []) rfl trivial ?_
      exact mw_of (fun _ => mu_ret rfl (Or.inl rfl) ⟨_, _, rfl, (by unfold nmz; rw [if_pos h1, if_neg h2]), rfl⟩)
  · -- 19
    refine mw_go mu_g504 (k := 1) (f1 := (20, [(0, .inr (.inr (some 169)))], [.inl (0 : Int32)], H)) (C := []) rfl trivial ?_
    exact mw_of (fun _ => mu_ret rfl (Or.inl rfl) ⟨_, _, rfl, (by unfold nmz; rw [if_neg h1]), rfl⟩)
