/-! SOUND: a TEXT that is well formed -/
section SoundWell
variable {H H1 : mu_H} {m : Nat}
theorem mo.tw (h : mo m H) (hs : ∀ j, j < 19 → gi_sz H1 (m + 1 + 2 * j) = gi_sz H (m + 1 + 2 * j)) (hc : cp m H H1) : mo m H1 := by
  have m3 : gi_sz H1 (m + 3) = gi_sz H (m + 3) := hs 1 (by decide)
  have c3 : ∀ i c, c ≤ 6 → cel H1 (m + 3) (i * 11 + c) = cel H (m + 3) (i * 11 + c) := fun i c h6 => hc 1 (by decide) i c (by show c < 11; omega) (decide_eq_true h6)
  intro i hi c h1 h6
  have ht : tabc c < 19 := by
    have : c = 1 ∨ c = 2 ∨ c = 3 ∨ c = 4 ∨ c = 5 ∨ c = 6 := by omega
    rcases this with e | e | e | e | e | e <;> subst e <;> decide
  have es : ∀ i, msp H1 m i c = msp H m i c := fun i => by
    unfold msp
    rw [m3, c3 i c h6, hs _ ht]
  rw [m3] at hi
  rw [c3 i c h6, es, es, hs _ ht]
  exact h i hi c h1 h6
theorem vl.tw (h : vl m H) (hs : ∀ j, j < 19 → gi_sz H1 (m + 1 + 2 * j) = gi_sz H (m + 1 + 2 * j)) (hc : cp m H H1) : vl m H1 := by
  have z7 : gi_sz H1 (m + 7) = gi_sz H (m + 7) := hs 3 (by decide)
  have z9 : gi_sz H1 (m + 9) = gi_sz H (m + 9) := hs 4 (by decide)
  have c7 : ∀ i c, c ≤ 3 → cel H1 (m + 7) (i * 6 + c) = cel H (m + 7) (i * 6 + c) := fun i c h3 => hc 3 (by decide) i c (by show c < 6; omega) (decide_eq_true h3)
  have e2 : ∀ k, va H1 m k = va H m k := fun k => by unfold va; rw [c7 k 2 (by decide)]
  have e3 : ∀ k, vb H1 m k = vb H m k := fun k => by unfold vb; rw [c7 k 3 (by decide)]
  have el : ∀ k, lsum H1 m k = lsum H m k := fun k => by
    induction k with
    | zero => rfl
    | succ k ih =>
      show lsum H1 m k + (if cel H1 (m + 7) (k * 6 + 1) = 2 then vb H1 m k else 0) = lsum H m k + (if cel H (m + 7) (k * 6 + 1) = 2 then vb H m k else 0)
      rw [ih, e3, c7 k 1 (by decide)]
  refine ⟨fun k hk h2 => ?_, by rw [z7, z9, el]; exact h.2⟩
  rw [z7] at hk
  rw [c7 k 1 (by decide)] at h2
  rw [c7 k 2 (by decide), c7 k 3 (by decide), e2, e3, z9]
  exact h.1 k hk h2
end SoundWell
section SoundWell2
variable {H : mu_H} {d m : Nat}
/-- PathProver$Sound.isWellFormed(LPathProver$Model;)Z -/
abbrev mu_m171 : ev_M := (4, (some .boolean), [], ev_b171)
theorem mu_g171 : mu_good mu_m171 := mu_goodk ev_k171
theorem so_well (hg : gi H) (hm : m = 2 ∨ m = 41) (hmo : mo m H) (hvl : vl m H) (hT : (gi_sz H (m + 3) + gi_sz H (m + 5) + gi_sz H (m + 7) + gi_sz H (m + 13) + gi_sz H (m + 9)) * 5 ≤ 4194300) : mu_TI (mu_D (d + 8)) 171 [.inr (.inr (some 92)), .inr (.inr (some m))] H (fun x H1 => (x = 0 ∨ x = 1) ∧ sd m H1 ∧ sw m H H1 ∧ gi_sz H1 93 ≤ gi_sz H (m + 3) + gi_sz H (m + 5) + gi_sz H (m + 7) + gi_sz H (m + 13) + gi_sz H (m + 9)) := by
  have gA : gi (mu_sr H 92 2 (some m)) := hg.sr rfl rfl (by decide)
  have gB : gi (mu_si (mu_sr H 92 2 (some m)) 93 2 0) := (gA.size (r := 93) (W := 5) (k := 0) rfl (Nat.zero_le _)).1
  refine mu_meth (M := mu_m171) rfl rfl ?_
  refine mw_ht (mu_fn_of (show [0, 1].Nodup by decide)) ?_
  refine mw_go mu_g171 (k := 5) (f1 := (9, [(0, .inr (.inr (some 92))), (1, .inr (.inr (some m)))], [.inr (.inr (mu_r (mu_sr H 92 2 (some m)) 92 0))], mu_sr H 92 2 (some m))) (C := [mu_is H (some 92) 12, mu_is (mu_sr H 92 2 (some m)) (some 92) 12]) rfl ⟨hg.is rfl, gA.is rfl⟩ ?_
  rw [gA.r (p := 92) (j := 0) (q := 93) rfl]
  refine mw_cVe (fun _ => rfl) (show mu_is (mu_sr H 92 2 (some m)) (some 93) 10 from gA.is rfl) (rw_clear_ok (d := d + 6) (gA.w (r := 93) (W := 5) rfl)) ?_
  refine mw_go mu_g171 (k := 2) (f1 := (16, [(0, .inr (.inr (some 92))), (1, .inr (.inr (some m)))], [.inr (.inr (mu_r (mu_si (mu_sr H 92 2 (some m)) 93 2 0) 92 1))], mu_si (mu_sr H 92 2 (some m)) 93 2 0)) (C := [mu_is (mu_si (mu_sr H 92 2 (some m)) 93 2 0) (some 92) 12]) rfl (show mu_is (mu_si (mu_sr H 92 2 (some m)) 93 2 0) (some 92) 12 from gB.is rfl) ?_
  rw [gB.r (p := 92) (j := 1) (q := 95) rfl]
  refine mw_go mu_g171 (k := 1) (f1 := (17, [(0, .inr (.inr (some 92))), (1, .inr (.inr (some m)))], [.inl (-1 : Int32), .inr (.inr (some 95))], mu_si (mu_sr H 92 2 (some m)) 93 2 0)) (C := []) rfl trivial ?_
  refine mw_cVe (fun _ => rfl) trivial (ar_fill_ok (d := d + 6) (o := some 95) (n := 512) (v := -1) (gB.a (p := 95) (x := (100, 512)) rfl).1 (gB.a (p := 95) (x := (100, 512)) rfl).2 (by decide)) ?_
  obtain ⟨r1, r2, r3⟩ := sd.reset hg hm
  show mu_W _ _ (20, [(0, .inr (.inr (some 92))), (1, .inr (.inr (some m)))], [], so_rst m H) _
  refine mw_go mu_g171 (k := 4) (f1 := (24, [(3, .inl (0 : Int32)), (2, .inl (1 : Int32)), (0, .inr (.inr (some 92))), (1, .inr (.inr (some m)))], [], so_rst m H)) (C := []) rfl trivial ?_
  generalize so_rst m H = R at r1 r2 r3 ⊢
  have hmoR : mo m R := hmo.tw (fun j hj => (r2.2.2.1 j hj).1) r2.2.2.2.1
  have hvlR : vl m R := hvl.tw (fun j hj => (r2.2.2.1 j hj).1) r2.2.2.2.1
  have zM : gi_sz R (m + 3) = gi_sz H (m + 3) := (r2.2.2.1 1 (by decide)).1
  have z5 : gi_sz R (m + 5) = gi_sz H (m + 5) := (r2.2.2.1 2 (by decide)).1
  have z7 : gi_sz R (m + 7) = gi_sz H (m + 7) := (r2.2.2.1 3 (by decide)).1
  have z13 : gi_sz R (m + 13) = gi_sz H (m + 13) := (r2.2.2.1 6 (by decide)).1
  have z9 : gi_sz R (m + 9) = gi_sz H (m + 9) := (r2.2.2.1 4 (by decide)).1
  show mu_W _ _ (24, [(3, .inl (nI 0)), (2, .inl (1 : Int32)), (0, .inr (.inr (some 92))), (1, .inr (.inr (some m)))], [], R) _
  refine mw_sub (L' := [(2, .inl (1 : Int32)), (3, .inl (nI 0)), (0, .inr (.inr (some 92))), (1, .inr (.inr (some m)))]) (by simp) ?_
  refine mw_down (α := Int32 × Nat × mu_H) (fun zs => (24, [(2, .inl zs.1), (3, .inl (nI zs.2.1)), (0, .inr (.inr (some 92))), (1, .inr (.inr (some m)))], [], zs.2.2)) (fun zs => gi_sz R (m + 3) - zs.2.1) (fun zs => sd m zs.2.2 ∧ sq m R zs.2.2 ∧ (zs.1 = 0 ∨ zs.1 = 1) ∧ (0 ≤ zs.2.1) ∧ (zs.2.1 ≤ gi_sz R (m + 3)) ∧ (gi_sz zs.2.2 93 ≤ zs.2.1)) (fun zs hza iha => ?_) ((1 : Int32), 0, R) ⟨r1, (sq.refl m R), (show (1 : Int32) = 0 ∨ (1 : Int32) = 1 from Or.inr rfl), (show 0 ≤ 0 by omega), (show 0 ≤ gi_sz R (m + 3) by omega), (show gi_sz R 93 ≤ 0 by omega)⟩
  obtain ⟨f, k, Hsa⟩ := zs
  obtain ⟨hpa, hta, hf, hk1, hk2, hk3⟩ := hza
  have hpa : sd m Hsa := hpa
  have hta : sq m R Hsa := hta
  have hf : f = 0 ∨ f = 1 := hf
  have hk1 : 0 ≤ k := hk1
  have hk2 : k ≤ gi_sz R (m + 3) := hk2
  have hk3 : gi_sz Hsa 93 ≤ k := hk3
  show mu_W _ _ (24, [(2, .inl f), (3, .inl (nI k)), (0, .inr (.inr (some 92))), (1, .inr (.inr (some m)))], [], Hsa) _
  have e3a : mu_i Hsa (m + 3) 2 = nI (gi_sz R (m + 3)) := by rw [← hta.m3]; exact (hpa.1.w (md_w1 hm)).2.2.2.1
  refine mw_go mu_g171 (k := 3) (f1 := (29, [(2, .inl f), (3, .inl (nI k)), (0, .inr (.inr (some 92))), (1, .inr (.inr (some m)))], [.inr (.inr (mu_r Hsa 92 2)), .inl (nI k)], Hsa)) (C := [mu_is Hsa (some 92) 12]) rfl (show mu_is Hsa (some 92) 12 from hpa.1.is rfl) ?_
  rw [hpa.2.2]
  refine mw_go mu_g171 (k := 1) (f1 := (32, [(2, .inl f), (3, .inl (nI k)), (0, .inr (.inr (some 92))), (1, .inr (.inr (some m)))], [.inr (.inr (mu_r Hsa m 1)), .inl (nI k)], Hsa)) (C := [mu_is Hsa (some m) 6]) rfl (show mu_is Hsa (some m) 6 from (show mu_is Hsa (some m) 6 from gi_im hpa.1 hpa.2.1)) ?_
  rw [(show mu_r Hsa m 1 = some (m + 3) from (gi_mr hpa.1 hpa.2.1 (j := 1) (by decide)).trans (congrArg some (by omega)))]
  refine mw_go mu_g171 (k := 1) (f1 := (35, [(2, .inl f), (3, .inl (nI k)), (0, .inr (.inr (some 92))), (1, .inr (.inr (some m)))], [.inl (mu_i Hsa (m + 3) 2), .inl (nI k)], Hsa)) (C := [mu_is Hsa (some (m + 3)) 10]) rfl (show mu_is Hsa (some (m + 3)) 10 from (hpa.1.w (md_w1 hpa.2.1)).1) ?_
  refine mw_if (P := (nI k) < (mu_i Hsa (m + 3) 2)) (a := 38) (b := 67) (fun _ => rfl) trivial (fun h1 => ?_) (fun h1 => ?_)
  · -- 38: (nI k) < (mu_i Hsa (m + 3) 2)
    have hkb : k < gi_sz R (m + 3) := by rw [e3a] at h1; exact (nI_ltI (by omega) (by omega)).mp h1
    refine mw_go mu_g171 (k := 5) (f1 := (45, [(2, .inl f), (3, .inl (nI k)), (0, .inr (.inr (some 92))), (1, .inr (.inr (some m)))], [.inr (.inr (mu_r Hsa 92 2)), .inl (-1 : Int32), .inr (.inr (some 92)), .inl f], Hsa)) (C := [mu_is Hsa (some 92) 12]) rfl (show mu_is Hsa (some 92) 12 from hpa.1.is rfl) ?_
    rw [hpa.2.2]
    refine mw_go mu_g171 (k := 1) (f1 := (48, [(2, .inl f), (3, .inl (nI k)), (0, .inr (.inr (some 92))), (1, .inr (.inr (some m)))], [.inr (.inr (mu_r Hsa m 1)), .inl (-1 : Int32), .inr (.inr (some 92)), .inl f], Hsa)) (C := [mu_is Hsa (some m) 6]) rfl (show mu_is Hsa (some m) 6 from (show mu_is Hsa (some m) 6 from gi_im hpa.1 hpa.2.1)) ?_
    rw [(show mu_r Hsa m 1 = some (m + 3) from (gi_mr hpa.1 hpa.2.1 (j := 1) (by decide)).trans (congrArg some (by omega)))]
    refine mw_go mu_g171 (k := 2) (f1 := (50, [(2, .inl f), (3, .inl (nI k)), (0, .inr (.inr (some 92))), (1, .inr (.inr (some m)))], [.inl (0 : Int32), .inl (nI k), .inr (.inr (some (m + 3))), .inl (-1 : Int32), .inr (.inr (some 92)), .inl f], Hsa)) (C := []) rfl trivial ?_
    refine mw_cIe (fun _ => rfl) (show mu_is Hsa (some (m + 3)) 10 from (hpa.1.w (md_w1 hpa.2.1)).1) (gi_get_ok (d := (d + 6)) (H := Hsa) hpa.1 (md_w1 hpa.2.1) (nI k) (j := 0) (by decide)) ?_
    refine mw_go mu_g171 (k := 2) (f1 := (56, [(2, .inl f), (3, .inl (nI k)), (0, .inr (.inr (some 92))), (1, .inr (.inr (some m)))], [.inl (nI k), .inl (6 : Int32), .inl (rw_get Hsa (m + 3) 11 (gi_sz Hsa (m + 3)) (nI k) 0), .inl (-1 : Int32), .inr (.inr (some 92)), .inl f], Hsa)) (C := []) rfl trivial ?_
    refine mw_cI (fun _ => rfl) (show mu_is Hsa (some 92) 12 from hpa.1.is rfl) (so_add (d := (d + 3)) hpa (by omega) (-1 : Int32) (rw_get Hsa (m + 3) 11 (gi_sz Hsa (m + 3)) (nI k) 0) (6 : Int32) (nI k)) (fun x3 H3 q3 => ?_)
    obtain ⟨hx3, hp3, qt3, qz3⟩ := q3
    have ht3 := hta.trans qt3
    refine mw_go mu_g171 (k := 4) (f1 := (24, [(3, .inl ((nI k) + 1)), (2, .inl (f &&& x3)), (0, .inr (.inr (some 92))), (1, .inr (.inr (some m)))], [], H3)) (C := []) rfl trivial ?_
    rw [nI_1]
    exact mw_sub (by simp) (iha ((f &&& x3), k + 1, H3) ⟨hp3, ht3, (show (f &&& x3) = 0 ∨ (f &&& x3) = 1 from b_and (hf) (hx3)), (show 0 ≤ (k + 1) by omega), (show (k + 1) ≤ gi_sz R (m + 3) by omega), (show gi_sz H3 93 ≤ (k + 1) by omega)⟩ (by show gi_sz R (m + 3) - (k + 1) < gi_sz R (m + 3) - k; omega))
  · -- 67: not (nI k) < (mu_i Hsa (m + 3) 2)
    refine mw_go mu_g171 (k := 5) (f1 := (73, [(2, .inl f), (3, .inl (nI k)), (0, .inr (.inr (some 92))), (1, .inr (.inr (some m)))], [.inl (28 : Int32), .inl (-1 : Int32), .inr (.inr (some 92)), .inr (.inr (some 92)), .inr (.inr (some 92))], Hsa)) (C := []) rfl trivial ?_
    refine mw_cI (fun _ => rfl) (show mu_is Hsa (some 92) 12 from hpa.1.is rfl) (so_find (d := (d + 5)) hpa.1 (-1 : Int32) (28 : Int32)) (fun x4 H4 q4 => ?_)
    obtain rfl := q4
    refine mw_cI (fun _ => rfl) (show mu_is Hsa (some 92) 12 from hpa.1.is rfl) (so_rowOf (d := (d + 5)) hpa.1 x4) (fun x5 H5 q5 => ?_)
    obtain rfl := q5
    refine mw_go mu_g171 (k := 2) (f1 := (83, [(2, .inl f), (3, .inl (nI k)), (0, .inr (.inr (some 92))), (1, .inr (.inr (some m)))], [.inl f], (mu_si Hsa 92 3 x5))) (C := [mu_is Hsa (some 92) 12]) rfl (show mu_is Hsa (some 92) 12 from hpa.1.is rfl) ?_
    refine mw_if (P := f = 0) (a := 130) (b := 86) (fun _ => rfl) trivial (fun h6 => ?_) (fun h6 => ?_)
    · -- 130: f = 0
      refine mw_go mu_g171 (k := 1) (f1 := (131, [(2, .inl f), (3, .inl (nI k)), (0, .inr (.inr (some 92))), (1, .inr (.inr (some m)))], [.inl (0 : Int32)], (mu_si Hsa 92 3 x5))) (C := []) rfl trivial ?_
      obtain ⟨hp7, qt7, qz7⟩ := hpa.main x5
      have ht7 := hta.trans qt7
      exact mw_of (fun _ => mu_ret rfl (Or.inl rfl) ⟨_, (mu_si Hsa 92 3 x5), rfl, Or.inl rfl, hp7, r2.sq ht7, by omega⟩)
    · -- 86: not f = 0
      refine mw_go mu_g171 (k := 2) (f1 := (90, [(2, .inl f), (3, .inl (nI k)), (0, .inr (.inr (some 92))), (1, .inr (.inr (some m)))], [.inl x5], (mu_si Hsa 92 3 x5))) (C := [mu_is (mu_si Hsa 92 3 x5) (some 92) 12]) rfl (show mu_is (mu_si Hsa 92 3 x5) (some 92) 12 from hpa.1.is rfl) ?_
      refine mw_if (P := x5 < 0) (a := 130) (b := 93) (fun _ => rfl) trivial (fun h8 => ?_) (fun h8 => ?_)
      · -- 130: x5 < 0
        refine mw_go mu_g171 (k := 1) (f1 := (131, [(2, .inl f), (3, .inl (nI k)), (0, .inr (.inr (some 92))), (1, .inr (.inr (some m)))], [.inl (0 : Int32)], (mu_si Hsa 92 3 x5))) (C := []) rfl trivial ?_
        obtain ⟨hp9, qt9, qz9⟩ := hpa.main x5
        have ht9 := hta.trans qt9
        exact mw_of (fun _ => mu_ret rfl (Or.inl rfl) ⟨_, (mu_si Hsa 92 3 x5), rfl, Or.inl rfl, hp9, r2.sq ht9, by omega⟩)
      · -- 93: not x5 < 0
        refine mw_go mu_g171 (k := 2) (f1 := (97, [(2, .inl f), (3, .inl (nI k)), (0, .inr (.inr (some 92))), (1, .inr (.inr (some m)))], [.inr (.inr (mu_r Hsa 92 2))], (mu_si Hsa 92 3 x5))) (C := [mu_is (mu_si Hsa 92 3 x5) (some 92) 12]) rfl (show mu_is (mu_si Hsa 92 3 x5) (some 92) 12 from hpa.1.is rfl) ?_
        rw [hpa.2.2]
        refine mw_go mu_g171 (k := 5) (f1 := (106, [(2, .inl f), (3, .inl (nI k)), (0, .inr (.inr (some 92))), (1, .inr (.inr (some m)))], [.inr (.inr (mu_r Hsa 92 2)), .inl (1 : Int32), .inl x5, .inr (.inr (some m))], (mu_si Hsa 92 3 x5))) (C := [mu_is (mu_si Hsa 92 3 x5) (some 92) 12, mu_is (mu_si Hsa 92 3 x5) (some 92) 12]) rfl (show (mu_is (mu_si Hsa 92 3 x5) (some 92) 12) ∧ (mu_is (mu_si Hsa 92 3 x5) (some 92) 12) from ⟨hpa.1.is rfl, hpa.1.is rfl⟩) ?_
        rw [hpa.2.2]
        refine mw_go mu_g171 (k := 1) (f1 := (109, [(2, .inl f), (3, .inl (nI k)), (0, .inr (.inr (some 92))), (1, .inr (.inr (some m)))], [.inr (.inr (mu_r Hsa m 2)), .inl (1 : Int32), .inl x5, .inr (.inr (some m))], (mu_si Hsa 92 3 x5))) (C := [mu_is (mu_si Hsa 92 3 x5) (some m) 6]) rfl (show mu_is (mu_si Hsa 92 3 x5) (some m) 6 from (show mu_is Hsa (some m) 6 from gi_im hpa.1 hpa.2.1)) ?_
        rw [(show mu_r Hsa m 2 = some (m + 5) from (gi_mr hpa.1 hpa.2.1 (j := 2) (by decide)).trans (congrArg some (by omega)))]
        obtain ⟨hp10, qt10, qz10⟩ := hpa.main x5
        have ht10 := hta.trans qt10
        refine mw_cI (fun _ => rfl) (show mu_is (mu_si Hsa 92 3 x5) (some m) 6 from (show mu_is (mu_si Hsa 92 3 x5) (some m) 6 from gi_im hp10.1 hp10.2.1)) (md_stop (d := (d + 5)) hp10.1 hp10.2.1 (md_w2 hp10.2.1) (c := 1) (by decide) x5) (fun x11 H11 q11 => ?_)
        obtain ⟨rfl, hst11⟩ := q11
        refine mw_go mu_g171 (k := 2) (f1 := (116, [(2, .inl f), (3, .inl (nI k)), (0, .inr (.inr (some 92))), (1, .inr (.inr (some m)))], [.inr (.inr (mu_r (mu_si Hsa 92 3 x5) 92 2)), .inl x11], (mu_si Hsa 92 3 x5))) (C := [mu_is (mu_si Hsa 92 3 x5) (some 92) 12]) rfl (show mu_is (mu_si Hsa 92 3 x5) (some 92) 12 from hp10.1.is rfl) ?_
        rw [hp10.2.2]
        refine mw_go mu_g171 (k := 1) (f1 := (119, [(2, .inl f), (3, .inl (nI k)), (0, .inr (.inr (some 92))), (1, .inr (.inr (some m)))], [.inr (.inr (mu_r (mu_si Hsa 92 3 x5) m 1)), .inl x11], (mu_si Hsa 92 3 x5))) (C := [mu_is (mu_si Hsa 92 3 x5) (some m) 6]) rfl (show mu_is (mu_si Hsa 92 3 x5) (some m) 6 from (show mu_is (mu_si Hsa 92 3 x5) (some m) 6 from gi_im hp10.1 hp10.2.1)) ?_
        rw [(show mu_r (mu_si Hsa 92 3 x5) m 1 = some (m + 3) from (gi_mr hp10.1 hp10.2.1 (j := 1) (by decide)).trans (congrArg some (by omega)))]
        refine mw_go mu_g171 (k := 3) (f1 := (124, [(2, .inl f), (3, .inl (nI k)), (0, .inr (.inr (some 92))), (1, .inr (.inr (some m)))], [.inl (1 : Int32), .inl (mu_i (mu_si Hsa 92 3 x5) 92 3), .inr (.inr (some (m + 3))), .inl x11], (mu_si Hsa 92 3 x5))) (C := [mu_is (mu_si Hsa 92 3 x5) (some 92) 12]) rfl (show mu_is (mu_si Hsa 92 3 x5) (some 92) 12 from hp10.1.is rfl) ?_
        refine mw_cIe (fun _ => rfl) (show mu_is (mu_si Hsa 92 3 x5) (some (m + 3)) 10 from (hp10.1.w (md_w1 hp10.2.1)).1) (gi_get_ok (d := (d + 6)) (H := (mu_si Hsa 92 3 x5)) hp10.1 (md_w1 hp10.2.1) (mu_i (mu_si Hsa 92 3 x5) 92 3) (j := 1) (by decide)) ?_
        refine mw_if (P := (rw_get (mu_si Hsa 92 3 x5) (m + 3) 11 (gi_sz (mu_si Hsa 92 3 x5) (m + 3)) (mu_i (mu_si Hsa 92 3 x5) 92 3) 1) < x11) (a := 130) (b := 132) (fun _ => rfl) trivial (fun h13 => ?_) (fun h13 => ?_)
        · -- 130: (rw_get (mu_si Hsa 92 3 x5) (m + 3) 11 (gi_sz (mu_si Hsa 92 3 x5) (m + 3)) (mu_i (mu_si Hsa 92 3 x5) 92 3) 1) < x11
          refine mw_go mu_g171 (k := 1) (f1 := (131, [(2, .inl f), (3, .inl (nI k)), (0, .inr (.inr (some 92))), (1, .inr (.inr (some m)))], [.inl (0 : Int32)], (mu_si Hsa 92 3 x5))) (C := []) rfl trivial ?_
          exact mw_of (fun _ => mu_ret rfl (Or.inl rfl) ⟨_, (mu_si Hsa 92 3 x5), rfl, Or.inl rfl, hp10, r2.sq ht10, by omega⟩)
        · -- 132: not (rw_get (mu_si Hsa 92 3 x5) (m + 3) 11 (gi_sz (mu_si Hsa 92 3 x5) (m + 3)) (mu_i (mu_si Hsa 92 3 x5) 92 3) 1) < x11
          refine mw_go mu_g171 (k := 2) (f1 := (134, [(3, .inl (0 : Int32)), (2, .inl f), (0, .inr (.inr (some 92))), (1, .inr (.inr (some m)))], [], (mu_si Hsa 92 3 x5))) (C := []) rfl trivial ?_
          show mu_W _ _ (134, [(3, .inl (nI 0)), (2, .inl f), (0, .inr (.inr (some 92))), (1, .inr (.inr (some m)))], [], (mu_si Hsa 92 3 x5)) _
          refine mw_sub (L' := [(3, .inl (nI 0)), (0, .inr (.inr (some 92))), (1, .inr (.inr (some m)))]) (by simp) ?_
          refine mw_down (α := Nat × mu_H) (fun zs => (134, [(3, .inl (nI zs.1)), (0, .inr (.inr (some 92))), (1, .inr (.inr (some m)))], [], zs.2)) (fun zs => gi_sz R (m + 3) - zs.1) (fun zs => sd m zs.2 ∧ sq m R zs.2 ∧ (0 ≤ zs.1) ∧ (zs.1 ≤ gi_sz R (m + 3)) ∧ (gi_sz zs.2 93 ≤ gi_sz R (m + 3) + msp R m zs.1 1 + msp R m zs.1 2 + msp R m zs.1 3 + lsum R m (msp R m zs.1 2))) (fun zs hzb ihb => ?_) (0, (mu_si Hsa 92 3 x5)) ⟨hp10, ht10, (show 0 ≤ 0 by omega), (show 0 ≤ gi_sz R (m + 3) by omega), (show gi_sz (mu_si Hsa 92 3 x5) 93 ≤ gi_sz R (m + 3) + msp R m 0 1 + msp R m 0 2 + msp R m 0 3 + lsum R m (msp R m 0 2) by omega)⟩
          obtain ⟨k, Hsb⟩ := zs
          obtain ⟨hpb, htb, hk1, hk2, hk3⟩ := hzb
          have hpb : sd m Hsb := hpb
          have htb : sq m R Hsb := htb
          have hk1 : 0 ≤ k := hk1
          have hk2 : k ≤ gi_sz R (m + 3) := hk2
          have hk3 : gi_sz Hsb 93 ≤ gi_sz R (m + 3) + msp R m k 1 + msp R m k 2 + msp R m k 3 + lsum R m (msp R m k 2) := hk3
          show mu_W _ _ (134, [(3, .inl (nI k)), (0, .inr (.inr (some 92))), (1, .inr (.inr (some m)))], [], Hsb) _
          have e3b : mu_i Hsb (m + 3) 2 = nI (gi_sz R (m + 3)) := by rw [← htb.m3]; exact (hpb.1.w (md_w1 hm)).2.2.2.1
          refine mw_go mu_g171 (k := 3) (f1 := (139, [(3, .inl (nI k)), (0, .inr (.inr (some 92))), (1, .inr (.inr (some m)))], [.inr (.inr (mu_r Hsb 92 2)), .inl (nI k)], Hsb)) (C := [mu_is Hsb (some 92) 12]) rfl (show mu_is Hsb (some 92) 12 from hpb.1.is rfl) ?_
          rw [hpb.2.2]
          refine mw_go mu_g171 (k := 1) (f1 := (142, [(3, .inl (nI k)), (0, .inr (.inr (some 92))), (1, .inr (.inr (some m)))], [.inr (.inr (mu_r Hsb m 1)), .inl (nI k)], Hsb)) (C := [mu_is Hsb (some m) 6]) rfl (show mu_is Hsb (some m) 6 from (show mu_is Hsb (some m) 6 from gi_im hpb.1 hpb.2.1)) ?_
          rw [(show mu_r Hsb m 1 = some (m + 3) from (gi_mr hpb.1 hpb.2.1 (j := 1) (by decide)).trans (congrArg some (by omega)))]
          refine mw_go mu_g171 (k := 1) (f1 := (145, [(3, .inl (nI k)), (0, .inr (.inr (some 92))), (1, .inr (.inr (some m)))], [.inl (mu_i Hsb (m + 3) 2), .inl (nI k)], Hsb)) (C := [mu_is Hsb (some (m + 3)) 10]) rfl (show mu_is Hsb (some (m + 3)) 10 from (hpb.1.w (md_w1 hpb.2.1)).1) ?_
          refine mw_if (P := (nI k) < (mu_i Hsb (m + 3) 2)) (a := 148) (b := 180) (fun _ => rfl) trivial (fun h14 => ?_) (fun h14 => ?_)
          · -- 148: (nI k) < (mu_i Hsb (m + 3) 2)
            have hkb : k < gi_sz R (m + 3) := by rw [e3b] at h14; exact (nI_ltI (by omega) (by omega)).mp h14
            obtain ⟨le1, lf1, -⟩ := hmoR.le r1.1 hm hkb (c := 1) (by decide) (by decide)
            rw [show m + 1 + 2 * tabc 1 = m + 5 by show m + 1 + 2 * 2 = m + 5; omega] at lf1
            obtain ⟨le2, lf2, -⟩ := hmoR.le r1.1 hm hkb (c := 2) (by decide) (by decide)
            rw [show m + 1 + 2 * tabc 2 = m + 7 by show m + 1 + 2 * 3 = m + 7; omega] at lf2
            obtain ⟨le3, lf3, -⟩ := hmoR.le r1.1 hm hkb (c := 3) (by decide) (by decide)
            rw [show m + 1 + 2 * tabc 3 = m + 13 by show m + 1 + 2 * 6 = m + 13; omega] at lf3
            have ll1 := lsum_le (H := R) (m := m) le2
            have ll2 := lsum_le (H := R) (m := m) lf2
            have ll3 := hvlR.2
            refine mw_go mu_g171 (k := 2) (f1 := (150, [(3, .inl (nI k)), (0, .inr (.inr (some 92))), (1, .inr (.inr (some m)))], [.inl (nI k), .inr (.inr (some 92))], Hsb)) (C := []) rfl trivial ?_
            refine mw_cI (fun _ => rfl) (show mu_is Hsb (some 92) 12 from hpb.1.is rfl) (so_differ (d := (d + 2)) (i := k) hpb (hmoR.sq htb) (by rw [htb.m3]; exact hkb) (by rw [mo.same htb (i := k + 1) (c := 1) (by decide) (by decide), mo.same htb (i := k) (c := 1) (by decide) (by decide), mo.same htb (i := k + 1) (c := 2) (by decide) (by decide), mo.same htb (i := k) (c := 2) (by decide) (by decide), mo.same htb (i := k + 1) (c := 3) (by decide) (by decide), mo.same htb (i := k) (c := 3) (by decide) (by decide)]; omega)) (fun x15 H15 q15 => ?_)
            obtain ⟨qx15, hp15, qt15, qz15⟩ := q15; rcases qx15 with rfl | rfl
            · -- (0 : Int32)
              rw [mo.same htb (i := k + 1) (c := 1) (by decide) (by decide), mo.same htb (i := k) (c := 1) (by decide) (by decide), mo.same htb (i := k + 1) (c := 2) (by decide) (by decide), mo.same htb (i := k) (c := 2) (by decide) (by decide), mo.same htb (i := k + 1) (c := 3) (by decide) (by decide), mo.same htb (i := k) (c := 3) (by decide) (by decide)] at qz15
              have ht15 := htb.trans qt15
              refine mw_if (P := (0 : Int32) = 0) (a := 172) (b := 156) (fun _ => rfl) trivial (fun h16 => ?_) (fun h16 => absurd (by decide) h16)
              refine mw_go mu_g171 (k := 1) (f1 := (173, [(3, .inl (nI k)), (0, .inr (.inr (some 92))), (1, .inr (.inr (some m)))], [.inl (0 : Int32)], H15)) (C := []) rfl trivial ?_
              exact mw_of (fun _ => mu_ret rfl (Or.inl rfl) ⟨_, H15, rfl, Or.inl rfl, hp15, r2.sq ht15, by omega⟩)
            · -- (1 : Int32)
              rw [mo.same htb (i := k + 1) (c := 1) (by decide) (by decide), mo.same htb (i := k) (c := 1) (by decide) (by decide), mo.same htb (i := k + 1) (c := 2) (by decide) (by decide), mo.same htb (i := k) (c := 2) (by decide) (by decide), mo.same htb (i := k + 1) (c := 3) (by decide) (by decide), mo.same htb (i := k) (c := 3) (by decide) (by decide)] at qz15
              have ht15 := htb.trans qt15
              refine mw_if (P := (1 : Int32) = 0) (a := 172) (b := 156) (fun _ => rfl) trivial (fun h17 => absurd h17 (by decide)) (fun h17 => ?_)
              refine mw_go mu_g171 (k := 2) (f1 := (158, [(3, .inl (nI k)), (0, .inr (.inr (some 92))), (1, .inr (.inr (some m)))], [.inl (nI k), .inr (.inr (some 92))], H15)) (C := []) rfl trivial ?_
              refine mw_cI (fun _ => rfl) (show mu_is H15 (some 92) 12 from hp15.1.is rfl) (so_types (d := (d + 1)) (i := k) hp15 (hmoR.sq ht15) (by rw [ht15.m3]; exact hkb) (hvlR.sq ht15) (by rw [mo.same ht15 (i := k + 1) (c := 2) (by decide) (by decide), mo.same ht15 (i := k) (c := 2) (by decide) (by decide), (vl.same ht15 _).2.2, (vl.same ht15 _).2.2]; omega) (by have z : gi_sz H15 (m + 9) = gi_sz R (m + 9) := (ht15.2.2.1 4 (by decide)).1; omega)) (fun x18 H18 q18 => ?_)
              obtain ⟨qx18, hp18, qt18, qz18⟩ := q18; rcases qx18 with rfl | rfl
              · -- (0 : Int32)
                rw [mo.same ht15 (i := k + 1) (c := 2) (by decide) (by decide), mo.same ht15 (i := k) (c := 2) (by decide) (by decide), (vl.same ht15 _).2.2, (vl.same ht15 _).2.2] at qz18
                have ht18 := ht15.trans qt18
                refine mw_if (P := (0 : Int32) = 0) (a := 172) (b := 164) (fun _ => rfl) trivial (fun h19 => ?_) (fun h19 => absurd (by decide) h19)
                refine mw_go mu_g171 (k := 1) (f1 := (173, [(3, .inl (nI k)), (0, .inr (.inr (some 92))), (1, .inr (.inr (some m)))], [.inl (0 : Int32)], H18)) (C := []) rfl trivial ?_
                exact mw_of (fun _ => mu_ret rfl (Or.inl rfl) ⟨_, H18, rfl, Or.inl rfl, hp18, r2.sq ht18, by omega⟩)
              · -- (1 : Int32)
                rw [mo.same ht15 (i := k + 1) (c := 2) (by decide) (by decide), mo.same ht15 (i := k) (c := 2) (by decide) (by decide), (vl.same ht15 _).2.2, (vl.same ht15 _).2.2] at qz18
                have ht18 := ht15.trans qt18
                refine mw_if (P := (1 : Int32) = 0) (a := 172) (b := 164) (fun _ => rfl) trivial (fun h20 => absurd h20 (by decide)) (fun h20 => ?_)
                refine mw_go mu_g171 (k := 2) (f1 := (166, [(3, .inl (nI k)), (0, .inr (.inr (some 92))), (1, .inr (.inr (some m)))], [.inl (nI k), .inr (.inr (some 92))], H18)) (C := []) rfl trivial ?_
                refine mw_cI (fun _ => rfl) (show mu_is H18 (some 92) 12 from hp18.1.is rfl) (so_linesFit (d := (d + 4)) hp18 (nI k)) (fun x21 H21 q21 => ?_)
                obtain ⟨qx21, hp21, qt21, qz21⟩ := q21; rcases qx21 with rfl | rfl
                · -- (0 : Int32)
                  have ht21 := ht18.trans qt21
                  refine mw_if (P := (0 : Int32) = 0) (a := 172) (b := 174) (fun _ => rfl) trivial (fun h22 => ?_) (fun h22 => absurd (by decide) h22)
                  refine mw_go mu_g171 (k := 1) (f1 := (173, [(3, .inl (nI k)), (0, .inr (.inr (some 92))), (1, .inr (.inr (some m)))], [.inl (0 : Int32)], H21)) (C := []) rfl trivial ?_
                  exact mw_of (fun _ => mu_ret rfl (Or.inl rfl) ⟨_, H21, rfl, Or.inl rfl, hp21, r2.sq ht21, by omega⟩)
                · -- (1 : Int32)
                  have ht21 := ht18.trans qt21
                  refine mw_if (P := (1 : Int32) = 0) (a := 172) (b := 174) (fun _ => rfl) trivial (fun h23 => absurd h23 (by decide)) (fun h23 => ?_)
                  refine mw_go mu_g171 (k := 2) (f1 := (134, [(3, .inl ((nI k) + 1)), (0, .inr (.inr (some 92))), (1, .inr (.inr (some m)))], [], H21)) (C := []) rfl trivial ?_
                  rw [nI_1]
                  exact mw_sub (by simp) (ihb (k + 1, H21) ⟨hp21, ht21, (show 0 ≤ (k + 1) by omega), (show (k + 1) ≤ gi_sz R (m + 3) by omega), (show gi_sz H21 93 ≤ gi_sz R (m + 3) + msp R m (k + 1) 1 + msp R m (k + 1) 2 + msp R m (k + 1) 3 + lsum R m (msp R m (k + 1) 2) by omega)⟩ (by show gi_sz R (m + 3) - (k + 1) < gi_sz R (m + 3) - k; omega))
          · -- 180: not (nI k) < (mu_i Hsb (m + 3) 2)
            have hkb : ¬ k < gi_sz R (m + 3) := fun z => h14 (by rw [e3b]; exact nI_lt z (by omega))
            have p1 : msp R m k 1 = gi_sz R (m + 5) := by unfold msp; rw [if_neg hkb]; show gi_sz R (m + 1 + 2 * 2) = _; rw [show m + 1 + 2 * 2 = m + 5 by omega]
            have p2 : msp R m k 2 = gi_sz R (m + 7) := by unfold msp; rw [if_neg hkb]; show gi_sz R (m + 1 + 2 * 3) = _; rw [show m + 1 + 2 * 3 = m + 7 by omega]
            have p3 : msp R m k 3 = gi_sz R (m + 13) := by unfold msp; rw [if_neg hkb]; show gi_sz R (m + 1 + 2 * 6) = _; rw [show m + 1 + 2 * 6 = m + 13 by omega]
            have p4 : lsum R m (msp R m k 2) ≤ gi_sz R (m + 9) := by rw [p2]; exact hvlR.2
            refine mw_go mu_g171 (k := 1) (f1 := (181, [(3, .inl (nI k)), (0, .inr (.inr (some 92))), (1, .inr (.inr (some m)))], [.inr (.inr (some 92))], Hsb)) (C := []) rfl trivial ?_
            refine mw_cI (fun _ => rfl) (show mu_is Hsb (some 92) 12 from hpb.1.is rfl) (so_ends (d := (d + 3)) hpb ) (fun x24 H24 q24 => ?_)
            obtain ⟨qx24, hp24, qt24, qz24⟩ := q24; rcases qx24 with rfl | rfl
            · -- (0 : Int32)
              have ht24 := htb.trans qt24
              exact mw_of (fun _ => mu_ret rfl (Or.inl rfl) ⟨_, H24, rfl, Or.inl rfl, hp24, r2.sq ht24, by omega⟩)
            · -- (1 : Int32)
              have ht24 := htb.trans qt24
              exact mw_of (fun _ => mu_ret rfl (Or.inr rfl) ⟨_, H24, rfl, Or.inr rfl, hp24, r2.sq ht24, by omega⟩)
end SoundWell2
