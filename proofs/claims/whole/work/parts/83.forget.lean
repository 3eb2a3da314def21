/-! A reference that may change is written; THE LEXER: words forgotten, the tape scanned -/
section GroundRef
variable {H : mu_H} {S : Nat → Bool}
theorem gi.sr (h : gi H) {p j : Nat} {v : Option Nat} (h1 : gi_r p j = none) (h2 : gi_o p j = false) (h3 : (p, j) ∉ gi_al) : gi (mu_sr H p j v) := by
  obtain ⟨a, b, c, e, f, g, i, ⟨x1, x2, x3⟩, x4, x5⟩ := h
  have er : ∀ q k, ¬ (q = p ∧ k = j) → mu_r (mu_sr H p j v) q k = mu_r H q k := fun q k hn => by rw [mu_r_sr, if_neg hn]
  have eo : ∀ q k, gi_o q k = true → mu_r (mu_sr H p j v) q k = mu_r H q k := fun q k hq => er q k (fun z => by rw [z.1, z.2, h2] at hq; cases hq)
  have ea : ∀ t ∈ gi_al, mu_r (mu_sr H p j v) t.1 t.2 = mu_r H t.1 t.2 := fun t ht => er t.1 t.2 (fun z => h3 (by rw [← z.1, ← z.2]; exact ht))
  have e0 : mu_r (mu_sr H p j v) 0 0 = mu_r H 0 0 := ea (0, 0) List.mem_cons_self
  have e7 : mu_r (mu_sr H p j v) 81 7 = mu_r H 81 7 := ea (81, 7) (List.mem_cons_of_mem _ List.mem_cons_self)
  have elen : ∀ t ∈ gi_al, gi_len (mu_sr H p j v) t = gi_len H t := fun t ht => by unfold gi_len; rw [ea t ht]; rfl
  have eSL : gi_SL (mu_sr H p j v) = gi_SL H := gi_sum_eq (f := fun t => Nat.log2 (gi_len H t)) (g := fun t => Nat.log2 (gi_len (mu_sr H p j v) t)) gi_al (fun t ht => by rw [elen t ht])
  refine ⟨by rw [eSL]; exact a, b, fun q k w hq => ?_, fun r W hr => ?_, fun q k hq => by rw [eo q k hq]; exact f q k hq, fun q k q' k' y1 y2 y3 => g q k q' k' y1 y2 (by rw [eo q k y1, eo q' k' y2] at y3; exact y3), i, ⟨by rw [e0]; exact x1, by rw [e7]; exact x2, by rw [e0, e7]; exact x3⟩, fun t ht => by rw [elen t ht]; exact x4 t ht, x5⟩
  · rw [er q k (fun z => by rw [z.1, z.2, h1] at hq; cases hq)]
    exact c q k w hq
  · have hro := (gi_w_ok hr).2.2.2.2
    obtain ⟨⟨e1, e2, e3, e4, e5, e6⟩, e8⟩ := e r W hr
    have hc : gi_cap (mu_sr H p j v) r = gi_cap H r := by unfold gi_cap; rw [eo r 1 hro]; rfl
    rw [hc]
    exact ⟨⟨e1, by rw [eo r 1 hro]; exact e2, e3, e4, by rw [eo r 1 hro]; exact e5, e6⟩, e8⟩
theorem gk.sr (h : gi H) {p j k : Nat} {v : Option Nat} (hp : gi_k p = some k) (h2 : gi_o p j = false) (h3 : (p, j) ∉ gi_al) (hS : S p = true) (hv : ∀ q, v = some q → gi_cd H q) : gk S H (mu_sr H p j v) := by
  have hk : mu_k H p = k := h.2.1 p k hp
  have hk2 := gi_k_ok hp
  have er : ∀ q k, ¬ (q = p ∧ k = j) → mu_r (mu_sr H p j v) q k = mu_r H q k := fun q k hn => by rw [mu_r_sr, if_neg hn]
  have elen : ∀ t ∈ gi_al, gi_len (mu_sr H p j v) t = gi_len H t := fun t ht => by unfold gi_len; rw [er t.1 t.2 (fun z => h3 (by rw [← z.1, ← z.2]; exact ht))]; rfl
  have eSL : gi_SL (mu_sr H p j v) = gi_SL H := gi_sum_eq (f := fun t => Nat.log2 (gi_len H t)) (g := fun t => Nat.log2 (gi_len (mu_sr H p j v) t)) gi_al (fun t ht => by rw [elen t ht])
  have eSC : gi_SC (mu_sr H p j v) = gi_SC H := gi_sum_eq gi_al elen
  refine ⟨⟨Nat.le_refl _, Nat.le_refl _, Nat.le_refl _⟩, fun _ _ => ⟨rfl, rfl⟩, fun q k' hq hs => mu_same_sr (fun e => by rw [e, hS] at hs; cases hs), fun q i hq hs => mu_same_sr (fun e => ?_), fun q hq hkq => mu_same_sr (fun e => by rw [e] at hkq; omega), fun q hq hn => mu_same_sr (fun e => hn (Or.inl (by omega))), fun q hq => Or.inl ?_, ?_⟩
  · have h1 := (h.o hq).2.2
    rw [e] at h1
    omega
  · rcases hq with z | ⟨a, i, z1, z2⟩
    · exact Or.inl z
    · by_cases e : a = p ∧ i = j
      · rw [e.1, e.2, mu_r_sr, if_pos ⟨rfl, rfl⟩] at z2
        exact hv q z2
      · rw [er a i e] at z2
        exact Or.inr ⟨a, i, z1, z2⟩
  · rw [eSL, eSC]
    exact ⟨Nat.le_refl _, Nat.le_refl _, Nat.le_refl _⟩
end GroundRef
section LexScan
variable {H : mu_H} {d t n : Nat}
/-- PathProver$Lexer.forgetWords()V -/
abbrev mu_m39 : ev_M := (3, none, [], ev_b39)
theorem mu_g39 : mu_good mu_m39 := mu_goodk ev_k39
theorem ls_forget (hg : gi H) : mu_TV (mu_D (d + 6)) 39 [.inr (.inr (some 81))] H (fun H1 => lw H1 ∧ lk ls_S H H1 ∧ (∀ j, j ≠ 7 → mu_r H1 81 j = mu_r H 81 j) ∧ (∀ j, j ≠ 8 → j ≠ 11 → mu_i H1 81 j = mu_i H 81 j) ∧ (mu_same H H1 82 ∧ mu_same H H1 (mu_p (mu_r H 82 1))) ∧ lu H1 ≤ 135 ∧ gi_sz H1 86 ≤ 135 ∧ mu_n H1 (lt7 H1) ≤ max (mu_n H (lt7 H)) 405 ∧ gi_cap H1 86 ≤ max (gi_cap H 86) 1084) := by
  have g2 : gi (mu_si (mu_si (mu_si H 81 11 0) 81 8 0) 86 2 0) := (((hg.si (k := 4) rfl rfl).si (k := 4) rfl rfl).size (r := 86) (W := 4) (k := 0) rfl (Nat.zero_le _)).1
  refine mu_meth (M := mu_m39) rfl rfl ?_
  refine mw_ht (mu_fn_of (show [0].Nodup by decide)) ?_
  refine mw_go mu_g39 (k := 8) (f1 := (14, [(0, .inr (.inr (some 81)))], [.inr (.inr (mu_r H 81 9))], (mu_si (mu_si H 81 11 (0 : Int32)) 81 8 (0 : Int32)))) (C := [mu_is H (some 81) 4, mu_is (mu_si H 81 11 (0 : Int32)) (some 81) 4, mu_is (mu_si (mu_si H 81 11 (0 : Int32)) 81 8 (0 : Int32)) (some 81) 4]) rfl (show (mu_is H (some 81) 4) ∧ (mu_is (mu_si H 81 11 (0 : Int32)) (some 81) 4) ∧ (mu_is (mu_si (mu_si H 81 11 (0 : Int32)) 81 8 (0 : Int32)) (some 81) 4) from ⟨hg.is rfl, hg.is rfl, hg.is rfl⟩) ?_
  rw [(hg.r (p := 81) (j := 9) (q := 86) rfl)]
  refine mw_cVe (fun _ => rfl) (show mu_is H (some 86) 10 from hg.is rfl) (rw_clear_ok (d := (d + 4)) (((hg.si (k := 4) rfl rfl).si (k := 4) rfl rfl : gi (mu_si (mu_si H 81 11 (0 : Int32)) 81 8 (0 : Int32))).w (r := 86) (W := 4) rfl)) ?_
  refine mw_go mu_g39 (k := 2) (f1 := (21, [(0, .inr (.inr (some 81)))], [.inr (.inr (mu_r (mu_si (mu_si (mu_si H 81 11 (0 : Int32)) 81 8 (0 : Int32)) 86 2 0) 81 10))], (mu_si (mu_si (mu_si H 81 11 (0 : Int32)) 81 8 (0 : Int32)) 86 2 0))) (C := [mu_is (mu_si (mu_si (mu_si H 81 11 (0 : Int32)) 81 8 (0 : Int32)) 86 2 0) (some 81) 4]) rfl (show mu_is (mu_si (mu_si (mu_si H 81 11 (0 : Int32)) 81 8 (0 : Int32)) 86 2 0) (some 81) 4 from g2.is rfl) ?_
  rw [(g2.r (p := 81) (j := 10) (q := 88) rfl)]
  refine mw_go mu_g39 (k := 1) (f1 := (22, [(0, .inr (.inr (some 81)))], [.inl (-1 : Int32), .inr (.inr (some 88))], (mu_si (mu_si (mu_si H 81 11 (0 : Int32)) 81 8 (0 : Int32)) 86 2 0))) (C := []) rfl trivial ?_
  refine mw_cVe (fun _ => rfl) trivial (ar_fill_ok (d := (d + 4)) (o := some 88) (n := 256) (v := -1) (g2.a (p := 88) (x := (100, 256)) rfl).1 (g2.a (p := 88) (x := (100, 256)) rfl).2 (by decide)) ?_
  refine mw_go mu_g39 (k := 4) (f1 := (29, [(2, .inl (0 : Int32)), (1, .inl (0 : Int32)), (0, .inr (.inr (some 81)))], [], (lx_rst H))) (C := []) rfl trivial ?_
  obtain ⟨r1, r2, r3, r4, ⟨r5, r6⟩, r7, r8, r9, r10⟩ := lw.reset hg
  show mu_W _ _ (29, [(2, .inl (nI 0)), (1, .inl (nI 0)), (0, .inr (.inr (some 81)))], [], lx_rst H) _
  generalize lx_rst H = R at r1 r2 r3 r4 r5 r6 r7 r8 r9 r10 ⊢
  refine mw_sub (L' := [(1, .inl (nI 0)), (2, .inl (nI 0)), (0, .inr (.inr (some 81)))]) (by simp) ?_
  refine mw_down (α := Nat × Nat × mu_H) (fun zs => (29, [(1, .inl (nI zs.1)), (2, .inl (nI zs.2.1)), (0, .inr (.inr (some 81)))], [], zs.2.2)) (fun zs => 135 - zs.2.1) (fun zs => lw zs.2.2 ∧ lf R zs.2.2 ∧ lu zs.2.2 ≤ zs.1 ∧ gi_sz zs.2.2 86 ≤ zs.1 ∧ zs.1 ≤ zs.2.1 ∧ zs.2.1 ≤ 135) (fun zs hz ih => ?_) (0, 0, R) ⟨r1, lf.refl R, (show lu R ≤ 0 by omega), (show gi_sz R 86 ≤ 0 by omega), Nat.le_refl _, Nat.zero_le _⟩
  obtain ⟨f, i, Hs⟩ := zs
  obtain ⟨hw, hlf, hlu, hls, hfi, hi135⟩ := hz
  have hw : lw Hs := hw
  have hlf : lf R Hs := hlf
  have hlu : lu Hs ≤ f := hlu
  have hls : gi_sz Hs 86 ≤ f := hls
  have hfi : f ≤ i := hfi
  have hi135 : i ≤ 135 := hi135
  have k84 := hw.1.a (p := 84) (x := (101, 135)) rfl
  have k84n : mu_n Hs 84 = 135 := k84.2
  show mu_W _ _ (29, [(1, .inl (nI f)), (2, .inl (nI i)), (0, .inr (.inr (some 81)))], [], Hs) _
  refine mw_go mu_g39 (k := 3) (f1 := (34, [(1, .inl (nI f)), (2, .inl (nI i)), (0, .inr (.inr (some 81)))], [.inr (.inr (mu_r Hs 81 6)), .inl (nI i)], Hs)) (C := [mu_is Hs (some 81) 4]) rfl (show mu_is Hs (some 81) 4 from hw.1.is rfl) ?_
  rw [(hw.1.r (p := 81) (j := 6) (q := 84) rfl)]
  refine mw_go mu_g39 (k := 1) (f1 := (35, [(1, .inl (nI f)), (2, .inl (nI i)), (0, .inr (.inr (some 81)))], [.inl (Int32.ofNat (mu_n Hs 84)), .inl (nI i)], Hs)) (C := [mu_isr Hs (some 84) (mu_k Hs 84), 100 ≤ mu_k Hs 84]) rfl (show (mu_isr Hs (some 84) (mu_k Hs 84)) ∧ (100 ≤ mu_k Hs 84) from ⟨⟨rfl, Or.inl k84.1.2.1, rfl⟩, (show 100 ≤ mu_k Hs 84 by rw [show mu_k Hs 84 = 101 from k84.1.2.2]; decide)⟩) ?_
  refine mw_if (P := (nI i) < (Int32.ofNat (mu_n Hs 84))) (a := 38) (b := 70) (fun _ => rfl) trivial (fun h3 => ?_) (fun h3 => ?_)
  · -- 38: (nI i) < (Int32.ofNat (mu_n Hs 84))
    have hi2 : i < 135 := by rw [k84n] at h3; exact (nI_ltI (b := 135) (by omega) (by decide)).mp h3
    refine mw_go mu_g39 (k := 2) (f1 := (42, [(1, .inl (nI f)), (2, .inl (nI i)), (0, .inr (.inr (some 81)))], [.inr (.inr (mu_r Hs 81 6))], Hs)) (C := [mu_is Hs (some 81) 4]) rfl (show mu_is Hs (some 81) 4 from hw.1.is rfl) ?_
    rw [(hw.1.r (p := 81) (j := 6) (q := 84) rfl)]
    refine mw_go mu_g39 (k := 3) (f1 := (46, [(1, .inl (nI f)), (2, .inl (nI i)), (0, .inr (.inr (some 81)))], [.inl (32 : Int32), .inl (mu_i Hs 84 (nI i).toNatClampNeg)], Hs)) (C := [mu_isr Hs (some 84) 101, vp_in (nI i) (mu_n Hs 84)]) rfl (show (mu_isr Hs (some 84) 101) ∧ (vp_in (nI i) (mu_n Hs 84)) from ⟨k84.1.r, (by rw [k84n]; exact vp_in_nI (by omega) (by decide))⟩) ?_
    refine mw_if (P := (mu_i Hs 84 (nI i).toNatClampNeg) = (32 : Int32)) (a := 49) (b := 64) (fun _ => rfl) trivial (fun h4 => ?_) (fun h4 => ?_)
    · -- 49: (mu_i Hs 84 (nI i).toNatClampNeg) = (32 : Int32)
      refine mw_go mu_g39 (k := 3) (f1 := (54, [(1, .inl (nI f)), (2, .inl (nI i)), (0, .inr (.inr (some 81)))], [.inr (.inr (mu_r Hs 81 6)), .inr (.inr (some 81))], Hs)) (C := [mu_is Hs (some 81) 4]) rfl (show mu_is Hs (some 81) 4 from hw.1.is rfl) ?_
      rw [(hw.1.r (p := 81) (j := 6) (q := 84) rfl)]
      refine mw_go mu_g39 (k := 2) (f1 := (56, [(1, .inl (nI f)), (2, .inl (nI i)), (0, .inr (.inr (some 81)))], [.inl (nI i), .inl (nI f), .inr (.inr (some 84)), .inr (.inr (some 81))], Hs)) (C := []) rfl trivial ?_
      refine mw_cI (fun _ => rfl) (show mu_is Hs (some 81) 4 from hw.1.is rfl) (lx_num (d := d) (o := 84) (s := f) (e := i) hw k84.1 hfi (by rw [k84n]; omega) (by rw [k84n]; decide) (by omega) (by omega)) (fun x5 H5 q5 => ?_)
      obtain ⟨w1, w2, w3, w4⟩ := q5
      refine mw_go mu_g39 (k := 7) (f1 := (29, [(2, .inl ((nI i) + 1)), (1, .inl ((nI i) + (1 : Int32))), (0, .inr (.inr (some 81)))], [], H5)) (C := []) rfl trivial ?_
      rw [nI_1]
      exact mw_sub (by simp) (ih (i + 1, i + 1, H5) ⟨w1, hlf.trans w2, (show lu H5 ≤ i + 1 by omega), (show gi_sz H5 86 ≤ i + 1 by omega), (show i + 1 ≤ i + 1 by omega), (show i + 1 ≤ 135 by omega)⟩ (by show 135 - (i + 1) < 135 - i; omega))
    · -- 64: not (mu_i Hs 84 (nI i).toNatClampNeg) = (32 : Int32)
      refine mw_go mu_g39 (k := 2) (f1 := (29, [(2, .inl ((nI i) + 1)), (1, .inl (nI f)), (0, .inr (.inr (some 81)))], [], Hs)) (C := []) rfl trivial ?_
      rw [nI_1]
      exact mw_sub (by simp) (ih (f, i + 1, Hs) ⟨hw, hlf, (show lu Hs ≤ f by omega), (show gi_sz Hs 86 ≤ f by omega), (show f ≤ i + 1 by omega), (show i + 1 ≤ 135 by omega)⟩ (by show 135 - (i + 1) < 135 - i; omega))
  · -- 70: not (nI i) < (Int32.ofNat (mu_n Hs 84))
    obtain ⟨l1, l2, l3, ⟨l4, l5⟩, l6, l7, l8, l9⟩ := hlf
    refine mw_of (fun _ => mu_ret rfl trivial ⟨Hs, rfl, hw, r2.trans l1, fun j hj => (l2 j hj).trans (r3 j), fun j h8 h11 => (l3 j h8).trans (r4 j h8 h11), ⟨r5.trans l4, ?_⟩, by omega, by omega, by omega, by omega⟩)
    rw [r5.r] at l5
    exact r6.trans l5
end LexScan
