/-! FEED, the call -/
/-- PathProver.feed(IIIII)I -/
abbrev mu_m25 : ev_M := (6, (some .int), [], ev_b25)
theorem mu_g25 : mu_good mu_m25 := mu_goodk ev_k25
section Feed2
variable {H H1 G : mu_H} {t k N l d : Nat}
theorem fed_tail {a b c e f : Int32} {Φ : mu_R → Prop} (h : fds G t l N) (hk : l + 20 ≤ N) (hN : N ≤ 16777216)
    (hΦ : ∀ G1, fds G1 t (l + 20) N → tk fS G G1 → (∀ p j, mu_r G1 p j = mu_r G p j) → (∀ j, j ≠ 1 → mu_i G1 0 j = mu_i G 0 j) → (∀ i, i < l → mu_i G1 t i = mu_i G t i) → (∀ i, i < 20 → mu_i G1 t (l + i) = fed a b c e f i) → Φ (.inl (some (.inl (nI (l + 20)))), G1)) :
    mu_W (mu_D (d + 1)) mu_m25 (58, [(0, .inr (.inr (some 0))), (1, .inl a), (2, .inl b), (3, .inl c), (4, .inl e), (5, .inl f)], [], G) Φ := by
  have step : ∀ {G : mu_H} {k : Nat}, fds G t k N → k + 4 ≤ N → ∀ x, mu_TV (mu_D (d + 1)) 26 [.inr (.inr (some 0)), .inl x] G (fun H1 => H1 = tw4 G t k x) := fun {G k} hG h4 x => by
    obtain ⟨h1, h2, h3, h5⟩ := hG
    have h101 : mu_is G (some t) 101 := by rw [← h2]; exact h1.2.2.2.2.2.2.2.1.1
    refine pv_write (h1.is rfl) h2 h101 h5 (by omega) (by omega) (fun z => ?_) x
    have p := h101.2.2
    have q := (h1.is (p := 0) (k := 0) rfl).2.2
    rw [show mu_p (some t) = 0 from z] at p
    rw [show mu_p (some 0) = 0 from rfl] at q
    omega
  have i0 : ∀ {G : mu_H} {k : Nat}, fds G t k N → mu_is G (some 0) 0 := fun hG => hG.1.is rfl
  obtain ⟨f1, k1, r1, o1, p1, w1⟩ := tw4_ok (x := a) h (by omega) hN
  obtain ⟨f2, k2, r2, o2, p2, w2⟩ := tw4_ok (x := b) f1 (by omega) hN
  obtain ⟨f3, k3, r3, o3, p3, w3⟩ := tw4_ok (x := c) f2 (by omega) hN
  obtain ⟨f4, k4, r4, o4, p4, w4⟩ := tw4_ok (x := e) f3 (by omega) hN
  obtain ⟨f5, k5, r5, o5, p5, w5⟩ := tw4_ok (x := f) f4 (by omega) hN
  refine mw_go mu_g25 (k := 2) (f1 := (60, [(0, .inr (.inr (some 0))), (1, .inl a), (2, .inl b), (3, .inl c), (4, .inl e), (5, .inl f)], [.inl a, .inr (.inr (some 0))], G)) (C := []) rfl trivial ?_
  refine mw_cVe (fun _ => rfl) (i0 h) (step h (by omega) a) ?_
  refine mw_go mu_g25 (k := 2) (f1 := (65, [(0, .inr (.inr (some 0))), (1, .inl a), (2, .inl b), (3, .inl c), (4, .inl e), (5, .inl f)], [.inl b, .inr (.inr (some 0))], tw4 G t l a)) (C := []) rfl trivial ?_
  refine mw_cVe (fun _ => rfl) (i0 f1) (step f1 (by omega) b) ?_
  refine mw_go mu_g25 (k := 2) (f1 := (70, [(0, .inr (.inr (some 0))), (1, .inl a), (2, .inl b), (3, .inl c), (4, .inl e), (5, .inl f)], [.inl c, .inr (.inr (some 0))], tw4 (tw4 G t l a) t (l + 4) b)) (C := []) rfl trivial ?_
  refine mw_cVe (fun _ => rfl) (i0 f2) (step f2 (by omega) c) ?_
  refine mw_go mu_g25 (k := 2) (f1 := (76, [(0, .inr (.inr (some 0))), (1, .inl a), (2, .inl b), (3, .inl c), (4, .inl e), (5, .inl f)], [.inl e, .inr (.inr (some 0))], tw4 (tw4 (tw4 G t l a) t (l + 4) b) t (l + 4 + 4) c)) (C := []) rfl trivial ?_
  refine mw_cVe (fun _ => rfl) (i0 f3) (step f3 (by omega) e) ?_
  refine mw_go mu_g25 (k := 2) (f1 := (82, [(0, .inr (.inr (some 0))), (1, .inl a), (2, .inl b), (3, .inl c), (4, .inl e), (5, .inl f)], [.inl f, .inr (.inr (some 0))], tw4 (tw4 (tw4 (tw4 G t l a) t (l + 4) b) t (l + 4 + 4) c) t (l + 4 + 4 + 4) e)) (C := []) rfl trivial ?_
  refine mw_cVe (fun _ => rfl) (i0 f4) (step f4 (by omega) f) ?_
  refine mw_go mu_g25 (k := 2) (f1 := (89, [(0, .inr (.inr (some 0))), (1, .inl a), (2, .inl b), (3, .inl c), (4, .inl e), (5, .inl f)], [.inl (mu_i (tw4 (tw4 (tw4 (tw4 (tw4 G t l a) t (l + 4) b) t (l + 4 + 4) c) t (l + 4 + 4 + 4) e) t (l + 4 + 4 + 4 + 4) f) 0 1)], tw4 (tw4 (tw4 (tw4 (tw4 G t l a) t (l + 4) b) t (l + 4 + 4) c) t (l + 4 + 4 + 4) e) t (l + 4 + 4 + 4 + 4) f)) (C := [mu_is (tw4 (tw4 (tw4 (tw4 (tw4 G t l a) t (l + 4) b) t (l + 4 + 4) c) t (l + 4 + 4 + 4) e) t (l + 4 + 4 + 4 + 4) f) (some 0) 0]) rfl (i0 f5) ?_
  generalize tw4 (tw4 (tw4 (tw4 (tw4 G t l a) t (l + 4) b) t (l + 4 + 4) c) t (l + 4 + 4 + 4) e) t (l + 4 + 4 + 4 + 4) f = G5 at f5 k5 r5 o5 p5 w5 ⊢
  rw [f5.2.2.2]
  refine mw_of (fun _ => mu_ret rfl trivial ?_)
  refine hΦ G5 f5 ((((k1.trans k2).trans k3).trans k4).trans k5) (fun p j => by rw [r5, r4, r3, r2, r1]) (fun j hj => by rw [o5 j hj, o4 j hj, o3 j hj, o2 j hj, o1 j hj]) (fun i hi => by rw [p5 i (by omega), p4 i (by omega), p3 i (by omega), p2 i (by omega), p1 i hi]) (fun i hi => ?_)
  unfold fed
  by_cases c1 : i < 4
  · rw [if_pos c1, Nat.mod_eq_of_lt c1, p5 _ (by omega), p4 _ (by omega), p3 _ (by omega), p2 _ (by omega)]
    exact w1 i c1
  · rw [if_neg c1]
    by_cases c2 : i < 8
    · rw [if_pos c2, show i % 4 = i - 4 by omega, p5 _ (by omega), p4 _ (by omega), p3 _ (by omega), show l + i = l + 4 + (i - 4) by omega]
      exact w2 _ (by omega)
    · rw [if_neg c2]
      by_cases c3 : i < 12
      · rw [if_pos c3, show i % 4 = i - 8 by omega, p5 _ (by omega), p4 _ (by omega), show l + i = l + 4 + 4 + (i - 8) by omega]
        exact w3 _ (by omega)
      · rw [if_neg c3]
        by_cases c4 : i < 16
        · rw [if_pos c4, show i % 4 = i - 12 by omega, p5 _ (by omega), show l + i = l + 4 + 4 + 4 + (i - 12) by omega]
          exact w4 _ (by omega)
        · rw [if_neg c4, show i % 4 = i - 16 by omega, show l + i = l + 4 + 4 + 4 + 4 + (i - 16) by omega]
          exact w5 _ (by omega)
theorem pv_feed (hg : gi H) (ht : mu_r H 0 0 = some t) (h8 : 8 ≤ k) (h16 : k ≤ 16) (hn : mu_n H t = 2 ^ k) (hl : mu_i H 0 1 = nI l) (hlt : l ≤ mu_n H t) (a b c e f : Int32) : mu_MT (mu_D (d + 3)) 25 [.inr (.inr (some 0)), .inl a, .inl b, .inl c, .inl e, .inl f] H (fun r => (65536 < l + 20 ∧ r = (.inr 3, mu_ex H)) ∨ (l + 20 ≤ 65536 ∧ ∃ H1, r = (.inl (some (.inl (nI (l + 20)))), H1) ∧ fdd l t a b c e f H H1)) := by
  have h101 : mu_is H (some t) 101 := by rw [← ht]; exact hg.2.2.2.2.2.2.2.1.1
  have hpk : (256 : Nat) ≤ 2 ^ k := Nat.pow_le_pow_right (n := 2) (i := 8) (j := k) (by decide) h8
  have hpk2 : 2 ^ k ≤ 65536 := Nat.pow_le_pow_right (n := 2) (i := k) (j := 16) (by decide) h16
  have hi : mu_isr H (some t) (mu_k H t) ∧ 100 ≤ mu_k H t := ⟨⟨rfl, Or.inl h101.2.1, rfl⟩, by rw [show mu_k H t = 101 from h101.2.2]; decide⟩
  have i0 : mu_is H (some 0) 0 := hg.is rfl
  have e20 : nI l + 20 = nI (l + 20) := nI_add l 20
  refine mu_meth (M := mu_m25) rfl rfl ?_
  refine mw_ht (mu_fn_of (show [0, 1, 2, 3, 4, 5].Nodup by decide)) ?_
  refine mw_go mu_g25 (k := 2) (f1 := (4, [(0, .inr (.inr (some 0))), (1, .inl a), (2, .inl b), (3, .inl c), (4, .inl e), (5, .inl f)], [.inl (mu_i H 0 1)], H)) (C := [mu_is H (some 0) 0]) rfl i0 ?_
  rw [hl]
  refine mw_go mu_g25 (k := 3) (f1 := (9, [(0, .inr (.inr (some 0))), (1, .inl a), (2, .inl b), (3, .inl c), (4, .inl e), (5, .inl f)], [.inl (65536 : Int32), .inl (nI l + 20)], H)) (C := []) rfl trivial ?_
  rw [e20]
  refine mw_if (P := (65536 : Int32) < nI (l + 20)) (a := 12) (b := 20) (fun _ => rfl) trivial (fun hx => ?_) (fun hx => ?_)
  · have hx2 : 65536 < l + 20 := (nI_ltI (a := 65536) (by decide) (by omega)).mp hx
    exact mw_of (fun _ => mu_throw rfl rfl rfl rfl (by decide) rfl (by decide) (Or.inl ⟨hx2, rfl⟩))
  have hx2 : l + 20 ≤ 65536 := Nat.le_of_not_lt (fun z => hx ((nI_ltI (a := 65536) (by decide) (by omega)).mpr z))
  refine mw_go mu_g25 (k := 2) (f1 := (24, [(0, .inr (.inr (some 0))), (1, .inl a), (2, .inl b), (3, .inl c), (4, .inl e), (5, .inl f)], [.inl (mu_i H 0 1)], H)) (C := [mu_is H (some 0) 0]) rfl i0 ?_
  rw [hl]
  refine mw_go mu_g25 (k := 2) (f1 := (27, [(0, .inr (.inr (some 0))), (1, .inl a), (2, .inl b), (3, .inl c), (4, .inl e), (5, .inl f)], [.inl (nI l + 20)], H)) (C := []) rfl trivial ?_
  rw [e20]
  refine mw_go mu_g25 (k := 2) (f1 := (31, [(0, .inr (.inr (some 0))), (1, .inl a), (2, .inl b), (3, .inl c), (4, .inl e), (5, .inl f)], [.inr (.inr (mu_r H 0 0)), .inl (nI (l + 20))], H)) (C := [mu_is H (some 0) 0]) rfl i0 ?_
  rw [ht]
  refine mw_go mu_g25 (k := 1) (f1 := (32, [(0, .inr (.inr (some 0))), (1, .inl a), (2, .inl b), (3, .inl c), (4, .inl e), (5, .inl f)], [.inl (Int32.ofNat (mu_n H t)), .inl (nI (l + 20))], H)) (C := [mu_isr H (some t) (mu_k H t), 100 ≤ mu_k H t]) rfl hi ?_
  refine mw_if (P := (Int32.ofNat (mu_n H t)) < nI (l + 20)) (a := 35) (b := 58) (fun _ => rfl) trivial (fun hy => ?_) (fun hy => ?_)
  · have hy2 : mu_n H t < l + 20 := (nI_ltI (by omega) (by omega)).mp hy
    have hk15 : k ≤ 15 := Nat.le_of_not_lt (fun z => by
      have : k = 16 := by omega
      subst this
      have e : (2 : Nat) ^ 16 = 65536 := by decide
      omega)
    have hp2 : 2 ^ (k + 1) ≤ 65536 := Nat.pow_le_pow_right (n := 2) (i := k + 1) (j := 16) (by decide) (by omega)
    have hps : 2 ^ (k + 1) = 2 * mu_n H t := by rw [Nat.pow_succ, hn]; omega
    refine mw_go mu_g25 (k := 3) (f1 := (40, [(0, .inr (.inr (some 0))), (1, .inl a), (2, .inl b), (3, .inl c), (4, .inl e), (5, .inl f)], [.inr (.inr (mu_r H 0 0)), .inr (.inr (some 0))], H)) (C := [mu_is H (some 0) 0]) rfl i0 ?_
    rw [ht]
    refine mw_go mu_g25 (k := 3) (f1 := (45, [(0, .inr (.inr (some 0))), (1, .inl a), (2, .inl b), (3, .inl c), (4, .inl e), (5, .inl f)], [.inr (.inr (mu_r H 0 0)), .inl (2 : Int32), .inr (.inr (some t)), .inr (.inr (some 0))], H)) (C := [mu_is H (some 0) 0]) rfl i0 ?_
    rw [ht]
    refine mw_go mu_g25 (k := 3) (f1 := (49, [(0, .inr (.inr (some 0))), (1, .inl a), (2, .inl b), (3, .inl c), (4, .inl e), (5, .inl f)], [.inl (65536 : Int32), .inl ((2 : Int32) * Int32.ofNat (mu_n H t)), .inr (.inr (some t)), .inr (.inr (some 0))], H)) (C := [mu_isr H (some t) (mu_k H t), 100 ≤ mu_k H t]) rfl hi ?_
    refine mw_cIe (fun _ => rfl) trivial (mu_min_ok (d := d + 1) ((2 : Int32) * Int32.ofNat (mu_n H t)) (65536 : Int32)) ?_
    rw [show mu_min ((2 : Int32) * Int32.ofNat (mu_n H t)) (65536 : Int32) = nI (2 * mu_n H t) from by
      rw [show (2 : Int32) * Int32.ofNat (mu_n H t) = nI (2 * mu_n H t) from pk_mul 2 _]
      exact mu_min_nI (b := 65536) (by omega) (by decide)]
    refine mw_cA (fun _ => rfl) trivial (mu_copyOfB_ok (d := d) (N := 2 * mu_n H t) h101 (fun i hi2 => hg.2.2.2.2.2.2.2.2.2 t i h101.2.1 h101.2.2 hi2) (show mu_n H t < 2 * mu_n H t by omega) (by omega) hg.z) (fun x Hf q => ?_)
    obtain ⟨q1, q2⟩ := q
    subst q1
    have hif : mu_is Hf (some 0) 0 := by
      rw [q2]
      exact mu_is_nw (H := H) (k := 101) (len := 2 * mu_n H t) (sl := 2 * mu_n H t) i0
    refine mw_go mu_g25 (k := 1) (f1 := (58, [(0, .inr (.inr (some 0))), (1, .inl a), (2, .inl b), (3, .inl c), (4, .inl e), (5, .inl f)], [], mu_sr Hf 0 0 (some (mu_z H)))) (C := [mu_is Hf (some 0) 0]) rfl hif ?_
    have et : tp0 H = t := by unfold tp0; rw [ht]; rfl
    have hz := h101.2.1
    obtain ⟨g1, g2, g3, g4, g5, g6, g7⟩ := hg.grow0 (S := fS) (N := 2 * mu_n H t) (H1 := mu_sr Hf 0 0 (some (mu_z H))) (by rw [et]; omega) (by omega) (by rw [q2, et]; rfl) rfl
    have hc : ∀ i, i < mu_n H t → mu_i (mu_sr Hf 0 0 (some (mu_z H))) (mu_z H) i = mu_i H t i := fun i hi2 => by
      rw [q2, mu_i_sr, mu_i_cpi, if_pos ⟨rfl, Nat.zero_le _, by show i < 0 + mu_n H t; omega⟩, mu_i_nw, if_neg (by show ¬ t = mu_z H; have : t < mu_z H := hz; omega)]
      show mu_i H t (0 + (i - 0)) = _
      rw [Nat.zero_add, Nat.sub_zero]
    have hr0 : mu_r (mu_sr Hf 0 0 (some (mu_z H))) 0 0 = some (mu_z H) := by rw [mu_r_sr, if_pos ⟨rfl, rfl⟩]
    generalize mu_sr Hf 0 0 (some (mu_z H)) = F at g1 g2 g3 g4 g5 g6 g7 hc hr0 ⊢
    have h0z : 0 < mu_z H := by have := hg.1.1; omega
    refine fed_tail (d := d + 1) (t := mu_z H) (l := l) (N := 2 * mu_n H t) ⟨g1, hr0, g4, by rw [g6 0 h0z]; exact hl⟩ (by omega) (by omega) (fun G1 f1 k1 r1 o1 p1 w1 => Or.inr ⟨hx2, G1, rfl, f1.1, g2.trans k1, mu_z H, k + 1, f1.2.1, ⟨by omega, by omega, by rw [f1.2.2.1, hps]⟩, by rw [f1.2.2.1]; omega, f1.2.2.2, fun j hj => (o1 j hj).trans (g6 0 h0z j), fun j hj => (r1 0 j).trans (g7 0 j h0z (fun z => hj z.2)), fun i hi2 => (p1 i hi2).trans (hc i (by omega)), w1⟩)
  · have hy2 : l + 20 ≤ mu_n H t := Nat.le_of_not_lt (fun z => hy ((nI_ltI (by omega) (by omega)).mpr z))
    exact fed_tail (d := d + 1) (t := t) (l := l) (N := mu_n H t) ⟨hg, ht, rfl, hl⟩ hy2 (by omega) (fun G1 f1 k1 r1 o1 p1 w1 => Or.inr ⟨hx2, G1, rfl, f1.1, k1, t, k, f1.2.1, ⟨h8, h16, by rw [f1.2.2.1, hn]⟩, by rw [f1.2.2.1]; omega, f1.2.2.2, o1, fun j hj => r1 0 j, p1, w1⟩)
end Feed2
