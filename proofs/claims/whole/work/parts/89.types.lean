/-! SOUND: values, types; a TEXT that is well formed -/
section SoundMore
variable {H H1 : mu_H} {m : Nat}
theorem vl.same (hq : sq m H H1) (k : Nat) : va H1 m k = va H m k ∧ vb H1 m k = vb H m k ∧ lsum H1 m k = lsum H m k := by
  have e2 : ∀ k, va H1 m k = va H m k := fun k => by unfold va; rw [hq.c7 (by decide)]
  have e3 : ∀ k, vb H1 m k = vb H m k := fun k => by unfold vb; rw [hq.c7 (by decide)]
  refine ⟨e2 k, e3 k, ?_⟩
  induction k with
  | zero => rfl
  | succ k ih =>
    show lsum H1 m k + (if cel H1 (m + 7) (k * 6 + 1) = 2 then vb H1 m k else 0) = lsum H m k + (if cel H (m + 7) (k * 6 + 1) = 2 then vb H m k else 0)
    rw [ih, e3, hq.c7 (by decide)]
theorem vl.sq (h : vl m H) (hq : sq m H H1) : vl m H1 := by
  have z7 : gi_sz H1 (m + 7) = gi_sz H (m + 7) := (hq.2.2.1 3 (by decide)).1
  have z9 : gi_sz H1 (m + 9) = gi_sz H (m + 9) := (hq.2.2.1 4 (by decide)).1
  refine ⟨fun k hk h2 => ?_, ?_⟩
  · rw [z7] at hk
    rw [hq.c7 (by decide)] at h2
    rw [hq.c7 (by decide), hq.c7 (by decide), (vl.same hq k).1, (vl.same hq k).2.1, z9]
    exact h.1 k hk h2
  · rw [z7, z9, (vl.same hq _).2.2]
    exact h.2
theorem mo.same (hq : sq m H H1) {i c : Nat} (h1 : 1 ≤ c) (h6 : c ≤ 6) : msp H1 m i c = msp H m i c := by
  have ht : tabc c < 19 := by
    have : c = 1 ∨ c = 2 ∨ c = 3 ∨ c = 4 ∨ c = 5 ∨ c = 6 := by omega
    rcases this with e | e | e | e | e | e <;> subst e <;> decide
  unfold msp
  rw [hq.m3, hq.c3 h6, (hq.2.2.1 _ ht).1]
theorem mo.sq (h : mo m H) (hq : sq m H H1) : mo m H1 := fun i hi c h1 h6 => by
  have ht : tabc c < 19 := by
    have : c = 1 ∨ c = 2 ∨ c = 3 ∨ c = 4 ∨ c = 5 ∨ c = 6 := by omega
    rcases this with e | e | e | e | e | e <;> subst e <;> decide
  rw [hq.m3] at hi
  rw [hq.c3 h6, mo.same hq h1 h6, mo.same hq h1 h6, (hq.2.2.1 _ ht).1]
  exact h i hi c h1 h6
theorem sd.main (h : sd m H) (x : Int32) : sd m (mu_si H 92 3 x) ∧ sq m H (mu_si H 92 3 x) ∧ gi_sz (mu_si H 92 3 x) 93 = gi_sz H 93 := by
  obtain ⟨a, b⟩ := h.other (H1 := mu_si H 92 3 x) (g := fun p => Nat.beq p 92) (h.1.si (k := 12) rfl rfl) (gk.si h.1 (k := 12) rfl rfl) (fun p hp => Or.inl (Nat.eq_of_beq_eq_true hp)) (fun _ => rfl) (Nat.le_refl _) (Nat.le_max_left _ _)
  exact ⟨a, b, rfl⟩
/-- Sound begins -/
def so_rst (m : Nat) (H : mu_H) : mu_H := rw_fill (mu_si (mu_sr H 92 2 (some m)) 93 2 0) 95 0 (fun _ => -1) 512
/-- what Sound leaves of the world as it found it -/
def sw (m : Nat) (H H1 : mu_H) : Prop := gk (sq_S m) H H1 ∧ (∀ j, j ≠ 2 → mu_r H1 92 j = mu_r H 92 j) ∧ (∀ j, j < 19 → gi_sz H1 (m + 1 + 2 * j) = gi_sz H (m + 1 + 2 * j) ∧ gi_cap H1 (m + 1 + 2 * j) = gi_cap H (m + 1 + 2 * j)) ∧ cp m H H1 ∧ gi_cap H1 93 ≤ max (gi_cap H 93) (10 * gi_sz H1 93 + 5)
theorem sw.sq {H2 : mu_H} (h : sw m H H1) (h' : sq m H1 H2) : sw m H H2 := by
  obtain ⟨a, b, c, e, f⟩ := h
  obtain ⟨a', b', c', e', f1, f2⟩ := h'
  exact ⟨a.trans a', fun j hj => (b' j).trans (b j hj), fun j hj => ⟨((c' j hj).1).trans (c j hj).1, ((c' j hj).2).trans (c j hj).2⟩, fun j hj i k hk hq => (e' j hj i k hk hq).trans (e j hj i k hk hq), by omega⟩
theorem sd.reset (hg : gi H) (hm : m = 2 ∨ m = 41) : sd m (so_rst m H) ∧ sw m H (so_rst m H) ∧ gi_sz (so_rst m H) 93 = 0 := by
  have g1 : gi (mu_sr H 92 2 (some m)) := hg.sr rfl rfl (by decide)
  have k1 : gk (sq_S m) H (mu_sr H 92 2 (some m)) := gk.sr hg (k := 12) rfl rfl (by decide) (decide_eq_true (Or.inl rfl)) (fun q hq => by cases hq; exact Or.inl (by omega))
  have g2 : gi (mu_si (mu_sr H 92 2 (some m)) 93 2 0) := (g1.size (r := 93) (W := 5) (k := 0) rfl (Nat.zero_le _)).1
  have k2 : gk (sq_S m) H (mu_si (mu_sr H 92 2 (some m)) 93 2 0) := k1.trans (gk.si g1 (k := 10) rfl (decide_eq_true (Or.inr (Or.inl rfl))))
  have ho : mu_onl (mu_si (mu_sr H 92 2 (some m)) 93 2 0) (so_rst m H) 95 := ⟨rfl, rfl, fun p j hp => by unfold so_rst; rw [mu_i_fill, if_neg (fun z => hp z.1)], rfl⟩
  have e95 : mu_r (mu_si (mu_sr H 92 2 (some m)) 93 2 0) 92 1 = some 95 := g2.r rfl
  have g3 : gi (so_rst m H) := g2.onl ho (Or.inl (g2.a (p := 95) (x := (100, 512)) rfl).1.2.2)
  have k3 : gk (sq_S m) (mu_si (mu_sr H 92 2 (some m)) 93 2 0) (so_rst m H) := gk.onla (p := 92) (j := 1) g2 (by rw [e95]; exact ho) (decide_eq_true (Or.inl rfl)) rfl
  have k13 := k2.trans k3
  have ei : ∀ p j, p ≠ 93 → p ≠ 95 → mu_i (so_rst m H) p j = mu_i H p j := fun p j h3 h5 => by
    rw [ho.2.2.1 p j h5, mu_i_si, if_neg (fun z => h3 z.1)]
    rfl
  have er : ∀ p j, ¬ (p = 92 ∧ j = 2) → mu_r (so_rst m H) p j = mu_r H p j := fun p j hn => by
    show mu_r (mu_sr H 92 2 (some m)) p j = _
    rw [mu_r_sr, if_neg hn]
  have hcap : ∀ r, r ≠ 92 → gi_cap (so_rst m H) r = gi_cap H r := fun r hr => by
    unfold gi_cap
    rw [er r 1 (fun z => hr z.1)]
    rfl
  refine ⟨⟨g3, hm, ?_⟩, ⟨k13, fun j hj => er 92 j (fun z => hj z.2), fun j hj => ⟨?_, hcap _ (by omega)⟩, fun j hj i c hc hq => ?_, ?_⟩, ?_⟩
  · show mu_r (mu_sr H 92 2 (some m)) 92 2 = some m
    rw [mu_r_sr, if_pos ⟨rfl, rfl⟩]
  · unfold gi_sz
    rw [ei _ 2 (by omega) (by omega)]
  · obtain ⟨-, -, -, hrk, hro⟩ := gi_w_ok (ps_wm hm hj)
    unfold cel
    rw [er _ 1 (fun z => by omega)]
    have hc1 := hg.cell (ps_wm hm hj)
    refine ei _ _ (hc1.1 93 10 rfl).symm (fun e => ?_)
    have h95 : mu_r H 92 1 = some 95 := hg.r rfl
    have h1 : mu_r H (m + 1 + 2 * j) 1 = mu_r H 92 1 := by rw [h95, ← e]; exact (hg.o hro).1
    have := (hg.2.2.2.2.2.1 _ 1 92 1 hro rfl h1).1
    omega
  · rw [hcap 93 (by decide)]; exact Nat.le_max_left _ _
  · unfold gi_sz
    rw [ho.2.2.1 93 2 (by decide)]
    rfl
end SoundMore
section SoundMore2
variable {H : mu_H} {d m i w : Nat}
/-- PathProver$Sound.valuesFit(I)Z -/
abbrev mu_m184 : ev_M := (5, (some .boolean), [], ev_b184)
theorem mu_g184 : mu_good mu_m184 := mu_goodk ev_k184
theorem so_values (h : sd m H) (hvl : vl m H) (hw : w < gi_sz H (m + 7)) (ht2 : cel H (m + 7) (w * 6 + 1) = 2) (hz : (gi_sz H 93 + vb H m w) * 5 ≤ 4194304) (hv9 : gi_sz H (m + 9) ≤ 67108864) : mu_TI (mu_D (d + 5)) 184 [.inr (.inr (some 92)), .inl (nI w)] H (fun x H1 => (x = 0 ∨ x = 1) ∧ sd m H1 ∧ sq m H H1 ∧ gi_sz H1 93 ≤ gi_sz H 93 + vb H m w) := by
  have hm := h.2.1
  have hvab := (hvl.1 w hw ht2).2.2
  refine mu_meth (M := mu_m184) rfl rfl ?_
  refine mw_ht (mu_fn_of (show [0, 1].Nodup by decide)) ?_
  refine mw_go mu_g184 (k := 2) (f1 := (4, [(0, .inr (.inr (some 92))), (1, .inl (nI w))], [.inr (.inr (mu_r H 92 2))], H)) (C := [mu_is H (some 92) 12]) rfl (show mu_is H (some 92) 12 from h.1.is rfl) ?_
  rw [h.2.2]
  refine mw_go mu_g184 (k := 1) (f1 := (7, [(0, .inr (.inr (some 92))), (1, .inl (nI w))], [.inr (.inr (mu_r H m 3))], H)) (C := [mu_is H (some m) 6]) rfl (show mu_is H (some m) 6 from (show mu_is H (some m) 6 from gi_im h.1 h.2.1)) ?_
  rw [(show mu_r H m 3 = some (m + 7) from (gi_mr h.1 h.2.1 (j := 3) (by decide)).trans (congrArg some (by omega)))]
  refine mw_go mu_g184 (k := 2) (f1 := (9, [(0, .inr (.inr (some 92))), (1, .inl (nI w))], [.inl (2 : Int32), .inl (nI w), .inr (.inr (some (m + 7)))], H)) (C := []) rfl trivial ?_
  refine mw_cIe (fun _ => rfl) (show mu_is H (some (m + 7)) 10 from (h.1.w (md_w3 h.2.1)).1) (gi_get_ok (d := (d + 3)) (H := H) h.1 (md_w3 h.2.1) (nI w) (j := 2) (by decide)) ?_
  refine mw_go mu_g184 (k := 1) (f1 := (13, [(2, .inl (rw_get H (m + 7) 6 (gi_sz H (m + 7)) (nI w) 2)), (0, .inr (.inr (some 92))), (1, .inl (nI w))], [], H)) (C := []) rfl trivial ?_
  rw [vl.cell hm h.1 (sq.refl m H) hw (c := 2) (by decide), show cel H (m + 7) (w * 6 + 2) = nI (va H m w) from (hvl.1 w hw ht2).1]
  refine mw_go mu_g184 (k := 4) (f1 := (18, [(4, .inl (nI (va H m w))), (3, .inl (1 : Int32)), (2, .inl (nI (va H m w))), (0, .inr (.inr (some 92))), (1, .inl (nI w))], [], H)) (C := []) rfl trivial ?_
  refine mw_sub (L' := [(3, .inl (1 : Int32)), (4, .inl (nI (va H m w))), (0, .inr (.inr (some 92))), (1, .inl (nI w)), (2, .inl (nI (va H m w)))]) (by simp) ?_
  refine mw_down (α := Int32 × Nat × mu_H) (fun zs => (18, [(3, .inl zs.1), (4, .inl (nI zs.2.1)), (0, .inr (.inr (some 92))), (1, .inl (nI w)), (2, .inl (nI (va H m w)))], [], zs.2.2)) (fun zs => va H m w + vb H m w - zs.2.1) (fun zs => sd m zs.2.2 ∧ sq m H zs.2.2 ∧ (zs.1 = 0 ∨ zs.1 = 1) ∧ (va H m w ≤ zs.2.1) ∧ (zs.2.1 ≤ va H m w + vb H m w) ∧ (gi_sz zs.2.2 93 + va H m w ≤ gi_sz H 93 + zs.2.1)) (fun zs hza iha => ?_) ((1 : Int32), va H m w, H) ⟨h, (sq.refl m H), (show (1 : Int32) = 0 ∨ (1 : Int32) = 1 from Or.inr rfl), (show va H m w ≤ va H m w by omega), (show va H m w ≤ va H m w + vb H m w by omega), (show gi_sz H 93 + va H m w ≤ gi_sz H 93 + va H m w by omega)⟩
  obtain ⟨f, k, Hsa⟩ := zs
  obtain ⟨hpa, hta, hf, hk1, hk2, hk3⟩ := hza
  have hpa : sd m Hsa := hpa
  have hta : sq m H Hsa := hta
  have hf : f = 0 ∨ f = 1 := hf
  have hk1 : va H m w ≤ k := hk1
  have hk2 : k ≤ va H m w + vb H m w := hk2
  have hk3 : gi_sz Hsa 93 + va H m w ≤ gi_sz H 93 + k := hk3
  show mu_W _ _ (18, [(3, .inl f), (4, .inl (nI k)), (0, .inr (.inr (some 92))), (1, .inl (nI w)), (2, .inl (nI (va H m w)))], [], Hsa) _
  refine mw_go mu_g184 (k := 4) (f1 := (25, [(3, .inl f), (4, .inl (nI k)), (0, .inr (.inr (some 92))), (1, .inl (nI w)), (2, .inl (nI (va H m w)))], [.inr (.inr (mu_r Hsa 92 2)), .inl (nI (va H m w)), .inl (nI k)], Hsa)) (C := [mu_is Hsa (some 92) 12]) rfl (show mu_is Hsa (some 92) 12 from hpa.1.is rfl) ?_
  rw [hpa.2.2]
  refine mw_go mu_g184 (k := 1) (f1 := (28, [(3, .inl f), (4, .inl (nI k)), (0, .inr (.inr (some 92))), (1, .inl (nI w)), (2, .inl (nI (va H m w)))], [.inr (.inr (mu_r Hsa m 3)), .inl (nI (va H m w)), .inl (nI k)], Hsa)) (C := [mu_is Hsa (some m) 6]) rfl (show mu_is Hsa (some m) 6 from (show mu_is Hsa (some m) 6 from gi_im hpa.1 hpa.2.1)) ?_
  rw [(show mu_r Hsa m 3 = some (m + 7) from (gi_mr hpa.1 hpa.2.1 (j := 3) (by decide)).trans (congrArg some (by omega)))]
  refine mw_go mu_g184 (k := 2) (f1 := (30, [(3, .inl f), (4, .inl (nI k)), (0, .inr (.inr (some 92))), (1, .inl (nI w)), (2, .inl (nI (va H m w)))], [.inl (3 : Int32), .inl (nI w), .inr (.inr (some (m + 7))), .inl (nI (va H m w)), .inl (nI k)], Hsa)) (C := []) rfl trivial ?_
  refine mw_cIe (fun _ => rfl) (show mu_is Hsa (some (m + 7)) 10 from (hpa.1.w (md_w3 hpa.2.1)).1) (gi_get_ok (d := (d + 3)) (H := Hsa) hpa.1 (md_w3 hpa.2.1) (nI w) (j := 3) (by decide)) ?_
  refine mw_go mu_g184 (k := 1) (f1 := (34, [(3, .inl f), (4, .inl (nI k)), (0, .inr (.inr (some 92))), (1, .inl (nI w)), (2, .inl (nI (va H m w)))], [.inl ((nI (va H m w)) + (rw_get Hsa (m + 7) 6 (gi_sz Hsa (m + 7)) (nI w) 3)), .inl (nI k)], Hsa)) (C := []) rfl trivial ?_
  rw [vl.cell hm hpa.1 hta hw (c := 3) (by decide), show cel H (m + 7) (w * 6 + 3) = nI (vb H m w) from (hvl.1 w hw ht2).2.1, nI_add]
  refine mw_if (P := (nI k) < (nI (va H m w + vb H m w))) (a := 37) (b := 106) (fun _ => rfl) trivial (fun h3 => ?_) (fun h3 => ?_)
  · -- 37: (nI k) < (nI (va H m w + vb H m w))
    have hkb : k < va H m w + vb H m w := (nI_ltI (by omega) (by omega)).mp h3
    refine mw_go mu_g184 (k := 3) (f1 := (42, [(3, .inl f), (4, .inl (nI k)), (0, .inr (.inr (some 92))), (1, .inl (nI w)), (2, .inl (nI (va H m w)))], [.inr (.inr (mu_r Hsa 92 2)), .inl f], Hsa)) (C := [mu_is Hsa (some 92) 12]) rfl (show mu_is Hsa (some 92) 12 from hpa.1.is rfl) ?_
    rw [hpa.2.2]
    refine mw_go mu_g184 (k := 1) (f1 := (45, [(3, .inl f), (4, .inl (nI k)), (0, .inr (.inr (some 92))), (1, .inl (nI w)), (2, .inl (nI (va H m w)))], [.inr (.inr (mu_r Hsa m 4)), .inl f], Hsa)) (C := [mu_is Hsa (some m) 6]) rfl (show mu_is Hsa (some m) 6 from (show mu_is Hsa (some m) 6 from gi_im hpa.1 hpa.2.1)) ?_
    rw [(show mu_r Hsa m 4 = some (m + 9) from (gi_mr hpa.1 hpa.2.1 (j := 4) (by decide)).trans (congrArg some (by omega)))]
    refine mw_go mu_g184 (k := 2) (f1 := (48, [(3, .inl f), (4, .inl (nI k)), (0, .inr (.inr (some 92))), (1, .inl (nI w)), (2, .inl (nI (va H m w)))], [.inl (1 : Int32), .inl (nI k), .inr (.inr (some (m + 9))), .inl f], Hsa)) (C := []) rfl trivial ?_
    refine mw_cIe (fun _ => rfl) (show mu_is Hsa (some (m + 9)) 10 from (hpa.1.w (md_w4 hpa.2.1)).1) (gi_get_ok (d := (d + 3)) (H := Hsa) hpa.1 (md_w4 hpa.2.1) (nI k) (j := 1) (by decide)) ?_
    refine mw_go mu_g184 (k := 2) (f1 := (55, [(3, .inl f), (4, .inl (nI k)), (0, .inr (.inr (some 92))), (1, .inl (nI w)), (2, .inl (nI (va H m w)))], [.inr (.inr (mu_r Hsa 92 2)), .inl (rw_get Hsa (m + 9) 2 (gi_sz Hsa (m + 9)) (nI k) 1), .inl f], Hsa)) (C := [mu_is Hsa (some 92) 12]) rfl (show mu_is Hsa (some 92) 12 from hpa.1.is rfl) ?_
    rw [hpa.2.2]
    refine mw_go mu_g184 (k := 1) (f1 := (58, [(3, .inl f), (4, .inl (nI k)), (0, .inr (.inr (some 92))), (1, .inl (nI w)), (2, .inl (nI (va H m w)))], [.inr (.inr (mu_r Hsa m 4)), .inl (rw_get Hsa (m + 9) 2 (gi_sz Hsa (m + 9)) (nI k) 1), .inl f], Hsa)) (C := [mu_is Hsa (some m) 6]) rfl (show mu_is Hsa (some m) 6 from (show mu_is Hsa (some m) 6 from gi_im hpa.1 hpa.2.1)) ?_
    rw [(show mu_r Hsa m 4 = some (m + 9) from (gi_mr hpa.1 hpa.2.1 (j := 4) (by decide)).trans (congrArg some (by omega)))]
    refine mw_go mu_g184 (k := 2) (f1 := (60, [(3, .inl f), (4, .inl (nI k)), (0, .inr (.inr (some 92))), (1, .inl (nI w)), (2, .inl (nI (va H m w)))], [.inl (1 : Int32), .inl (nI (va H m w)), .inr (.inr (some (m + 9))), .inl (rw_get Hsa (m + 9) 2 (gi_sz Hsa (m + 9)) (nI k) 1), .inl f], Hsa)) (C := []) rfl trivial ?_
    refine mw_cIe (fun _ => rfl) (show mu_is Hsa (some (m + 9)) 10 from (hpa.1.w (md_w4 hpa.2.1)).1) (gi_get_ok (d := (d + 3)) (H := Hsa) hpa.1 (md_w4 hpa.2.1) (nI (va H m w)) (j := 1) (by decide)) ?_
    refine mw_if (P := (rw_get Hsa (m + 9) 2 (gi_sz Hsa (m + 9)) (nI k) 1) = (rw_get Hsa (m + 9) 2 (gi_sz Hsa (m + 9)) (nI (va H m w)) 1)) (a := 66) (b := 70) (fun _ => rfl) trivial (fun h6 => ?_) (fun h6 => ?_)
    · -- 66: (rw_get Hsa (m + 9) 2 (gi_sz Hsa (m + 9)) (nI k) 1) = (rw_get Hsa (m + 9) 2 (gi_sz Hsa (m + 9)) (nI (va H m w)) 1)
      refine mw_go mu_g184 (k := 11) (f1 := (83, [(3, .inl (f &&& (1 : Int32))), (4, .inl (nI k)), (0, .inr (.inr (some 92))), (1, .inl (nI w)), (2, .inl (nI (va H m w)))], [.inr (.inr (mu_r Hsa 92 2)), .inl ((-2 : Int32) - (nI w)), .inr (.inr (some 92)), .inl (f &&& (1 : Int32))], Hsa)) (C := [mu_is Hsa (some 92) 12]) rfl (show mu_is Hsa (some 92) 12 from hpa.1.is rfl) ?_
      rw [hpa.2.2]
      refine mw_go mu_g184 (k := 1) (f1 := (86, [(3, .inl (f &&& (1 : Int32))), (4, .inl (nI k)), (0, .inr (.inr (some 92))), (1, .inl (nI w)), (2, .inl (nI (va H m w)))], [.inr (.inr (mu_r Hsa m 4)), .inl ((-2 : Int32) - (nI w)), .inr (.inr (some 92)), .inl (f &&& (1 : Int32))], Hsa)) (C := [mu_is Hsa (some m) 6]) rfl (show mu_is Hsa (some m) 6 from (show mu_is Hsa (some m) 6 from gi_im hpa.1 hpa.2.1)) ?_
      rw [(show mu_r Hsa m 4 = some (m + 9) from (gi_mr hpa.1 hpa.2.1 (j := 4) (by decide)).trans (congrArg some (by omega)))]
      refine mw_go mu_g184 (k := 2) (f1 := (89, [(3, .inl (f &&& (1 : Int32))), (4, .inl (nI k)), (0, .inr (.inr (some 92))), (1, .inl (nI w)), (2, .inl (nI (va H m w)))], [.inl (0 : Int32), .inl (nI k), .inr (.inr (some (m + 9))), .inl ((-2 : Int32) - (nI w)), .inr (.inr (some 92)), .inl (f &&& (1 : Int32))], Hsa)) (C := []) rfl trivial ?_
      refine mw_cIe (fun _ => rfl) (show mu_is Hsa (some (m + 9)) 10 from (hpa.1.w (md_w4 hpa.2.1)).1) (gi_get_ok (d := (d + 3)) (H := Hsa) hpa.1 (md_w4 hpa.2.1) (nI k) (j := 0) (by decide)) ?_
      refine mw_go mu_g184 (k := 2) (f1 := (95, [(3, .inl (f &&& (1 : Int32))), (4, .inl (nI k)), (0, .inr (.inr (some 92))), (1, .inl (nI w)), (2, .inl (nI (va H m w)))], [.inl (nI k), .inl (5 : Int32), .inl (rw_get Hsa (m + 9) 2 (gi_sz Hsa (m + 9)) (nI k) 0), .inl ((-2 : Int32) - (nI w)), .inr (.inr (some 92)), .inl (f &&& (1 : Int32))], Hsa)) (C := []) rfl trivial ?_
      refine mw_cI (fun _ => rfl) (show mu_is Hsa (some 92) 12 from hpa.1.is rfl) (so_add (d := d) hpa (by omega) ((-2 : Int32) - (nI w)) (rw_get Hsa (m + 9) 2 (gi_sz Hsa (m + 9)) (nI k) 0) (5 : Int32) (nI k)) (fun x8 H8 q8 => ?_)
      obtain ⟨hx8, hp8, qt8, qz8⟩ := q8
      have ht8 := hta.trans qt8
      refine mw_go mu_g184 (k := 4) (f1 := (18, [(4, .inl ((nI k) + 1)), (3, .inl ((f &&& (1 : Int32)) &&& x8)), (0, .inr (.inr (some 92))), (1, .inl (nI w)), (2, .inl (nI (va H m w)))], [], H8)) (C := []) rfl trivial ?_
      rw [nI_1]
      exact mw_sub (by simp) (iha (((f &&& (1 : Int32)) &&& x8), k + 1, H8) ⟨hp8, ht8, (show ((f &&& (1 : Int32)) &&& x8) = 0 ∨ ((f &&& (1 : Int32)) &&& x8) = 1 from b_and (b_and (hf) (Or.inr rfl)) (hx8)), (show va H m w ≤ (k + 1) by omega), (show (k + 1) ≤ va H m w + vb H m w by omega), (show gi_sz H8 93 + va H m w ≤ gi_sz H 93 + (k + 1) by omega)⟩ (by show va H m w + vb H m w - (k + 1) < va H m w + vb H m w - k; omega))
    · -- 70: not (rw_get Hsa (m + 9) 2 (gi_sz Hsa (m + 9)) (nI k) 1) = (rw_get Hsa (m + 9) 2 (gi_sz Hsa (m + 9)) (nI (va H m w)) 1)
      refine mw_go mu_g184 (k := 10) (f1 := (83, [(3, .inl (f &&& (0 : Int32))), (4, .inl (nI k)), (0, .inr (.inr (some 92))), (1, .inl (nI w)), (2, .inl (nI (va H m w)))], [.inr (.inr (mu_r Hsa 92 2)), .inl ((-2 : Int32) - (nI w)), .inr (.inr (some 92)), .inl (f &&& (0 : Int32))], Hsa)) (C := [mu_is Hsa (some 92) 12]) rfl (show mu_is Hsa (some 92) 12 from hpa.1.is rfl) ?_
      rw [hpa.2.2]
      refine mw_go mu_g184 (k := 1) (f1 := (86, [(3, .inl (f &&& (0 : Int32))), (4, .inl (nI k)), (0, .inr (.inr (some 92))), (1, .inl (nI w)), (2, .inl (nI (va H m w)))], [.inr (.inr (mu_r Hsa m 4)), .inl ((-2 : Int32) - (nI w)), .inr (.inr (some 92)), .inl (f &&& (0 : Int32))], Hsa)) (C := [mu_is Hsa (some m) 6]) rfl (show mu_is Hsa (some m) 6 from (show mu_is Hsa (some m) 6 from gi_im hpa.1 hpa.2.1)) ?_
      rw [(show mu_r Hsa m 4 = some (m + 9) from (gi_mr hpa.1 hpa.2.1 (j := 4) (by decide)).trans (congrArg some (by omega)))]
      refine mw_go mu_g184 (k := 2) (f1 := (89, [(3, .inl (f &&& (0 : Int32))), (4, .inl (nI k)), (0, .inr (.inr (some 92))), (1, .inl (nI w)), (2, .inl (nI (va H m w)))], [.inl (0 : Int32), .inl (nI k), .inr (.inr (some (m + 9))), .inl ((-2 : Int32) - (nI w)), .inr (.inr (some 92)), .inl (f &&& (0 : Int32))], Hsa)) (C := []) rfl trivial ?_
      refine mw_cIe (fun _ => rfl) (show mu_is Hsa (some (m + 9)) 10 from (hpa.1.w (md_w4 hpa.2.1)).1) (gi_get_ok (d := (d + 3)) (H := Hsa) hpa.1 (md_w4 hpa.2.1) (nI k) (j := 0) (by decide)) ?_
      refine mw_go mu_g184 (k := 2) (f1 := (95, [(3, .inl (f &&& (0 : Int32))), (4, .inl (nI k)), (0, .inr (.inr (some 92))), (1, .inl (nI w)), (2, .inl (nI (va H m w)))], [.inl (nI k), .inl (5 : Int32), .inl (rw_get Hsa (m + 9) 2 (gi_sz Hsa (m + 9)) (nI k) 0), .inl ((-2 : Int32) - (nI w)), .inr (.inr (some 92)), .inl (f &&& (0 : Int32))], Hsa)) (C := []) rfl trivial ?_
      refine mw_cI (fun _ => rfl) (show mu_is Hsa (some 92) 12 from hpa.1.is rfl) (so_add (d := d) hpa (by omega) ((-2 : Int32) - (nI w)) (rw_get Hsa (m + 9) 2 (gi_sz Hsa (m + 9)) (nI k) 0) (5 : Int32) (nI k)) (fun x10 H10 q10 => ?_)
      obtain ⟨hx10, hp10, qt10, qz10⟩ := q10
      have ht10 := hta.trans qt10
      refine mw_go mu_g184 (k := 4) (f1 := (18, [(4, .inl ((nI k) + 1)), (3, .inl ((f &&& (0 : Int32)) &&& x10)), (0, .inr (.inr (some 92))), (1, .inl (nI w)), (2, .inl (nI (va H m w)))], [], H10)) (C := []) rfl trivial ?_
      rw [nI_1]
      exact mw_sub (by simp) (iha (((f &&& (0 : Int32)) &&& x10), k + 1, H10) ⟨hp10, ht10, (show ((f &&& (0 : Int32)) &&& x10) = 0 ∨ ((f &&& (0 : Int32)) &&& x10) = 1 from b_and (b_and (hf) (Or.inl rfl)) (hx10)), (show va H m w ≤ (k + 1) by omega), (show (k + 1) ≤ va H m w + vb H m w by omega), (show gi_sz H10 93 + va H m w ≤ gi_sz H 93 + (k + 1) by omega)⟩ (by show va H m w + vb H m w - (k + 1) < va H m w + vb H m w - k; omega))
  · -- 106: not (nI k) < (nI (va H m w + vb H m w))
    have hkb : ¬ k < va H m w + vb H m w := fun z => h3 (nI_lt z (by omega))
    refine mw_go mu_g184 (k := 1) (f1 := (107, [(3, .inl f), (4, .inl (nI k)), (0, .inr (.inr (some 92))), (1, .inl (nI w)), (2, .inl (nI (va H m w)))], [.inl f], Hsa)) (C := []) rfl trivial ?_
    exact mw_of (fun _ => mu_ret rfl hf ⟨_, Hsa, rfl, hf, hpa, hta, by omega⟩)
/-- PathProver$Sound.typesFit(I)Z -/
abbrev mu_m180 : ev_M := (4, (some .boolean), [], ev_b180)
theorem mu_g180 : mu_good mu_m180 := mu_goodk ev_k180
theorem so_types (h : sd m H) (hmo : mo m H) (hi : i < gi_sz H (m + 3)) (hvl : vl m H) (hz : (gi_sz H 93 + lsum H m (msp H m (i + 1) 2) - lsum H m (msp H m i 2)) * 5 ≤ 4194304) (hv9 : gi_sz H (m + 9) ≤ 67108864) : mu_TI (mu_D (d + 6)) 180 [.inr (.inr (some 92)), .inl (nI i)] H (fun x H1 => (x = 0 ∨ x = 1) ∧ sd m H1 ∧ sq m H H1 ∧ gi_sz H1 93 + lsum H m (msp H m i 2) ≤ gi_sz H 93 + lsum H m (msp H m (i + 1) 2)) := by
  have hm := h.2.1
  refine mu_meth (M := mu_m180) rfl rfl ?_
  refine mw_ht (mu_fn_of (show [0, 1].Nodup by decide)) ?_
  refine mw_go mu_g180 (k := 2) (f1 := (4, [(0, .inr (.inr (some 92))), (1, .inl (nI i))], [.inr (.inr (mu_r H 92 2))], H)) (C := [mu_is H (some 92) 12]) rfl (show mu_is H (some 92) 12 from h.1.is rfl) ?_
  rw [h.2.2]
  refine mw_go mu_g180 (k := 1) (f1 := (7, [(0, .inr (.inr (some 92))), (1, .inl (nI i))], [.inr (.inr (mu_r H m 1))], H)) (C := [mu_is H (some m) 6]) rfl (show mu_is H (some m) 6 from (show mu_is H (some m) 6 from gi_im h.1 h.2.1)) ?_
  rw [(show mu_r H m 1 = some (m + 3) from (gi_mr h.1 h.2.1 (j := 1) (by decide)).trans (congrArg some (by omega)))]
  refine mw_go mu_g180 (k := 2) (f1 := (9, [(0, .inr (.inr (some 92))), (1, .inl (nI i))], [.inl (2 : Int32), .inl (nI i), .inr (.inr (some (m + 3)))], H)) (C := []) rfl trivial ?_
  refine mw_cIe (fun _ => rfl) (show mu_is H (some (m + 3)) 10 from (h.1.w (md_w1 h.2.1)).1) (gi_get_ok (d := (d + 4)) (H := H) h.1 (md_w1 h.2.1) (nI i) (j := 2) (by decide)) ?_
  refine mw_go mu_g180 (k := 1) (f1 := (13, [(2, .inl (rw_get H (m + 3) 11 (gi_sz H (m + 3)) (nI i) 2)), (0, .inr (.inr (some 92))), (1, .inl (nI i))], [], H)) (C := []) rfl trivial ?_
  rw [hmo.start hm h.1 (sq.refl m H) hi (c := 2) (by decide) (by decide)]
  obtain ⟨hlea, hle2a, hle3a⟩ := hmo.le h.1 hm hi (c := 2) (by decide) (by decide)
  refine mw_sub (L' := [(2, .inl (nI (msp H m i 2))), (0, .inr (.inr (some 92))), (1, .inl (nI i))]) (by simp) ?_
  refine mw_down (α := Nat × mu_H) (fun zs => (13, [(2, .inl (nI zs.1)), (0, .inr (.inr (some 92))), (1, .inl (nI i))], [], zs.2)) (fun zs => msp H m (i + 1) 2 - zs.1) (fun zs => sd m zs.2 ∧ sq m H zs.2 ∧ (msp H m i 2 ≤ zs.1) ∧ (zs.1 ≤ msp H m (i + 1) 2) ∧ (gi_sz zs.2 93 + lsum H m (msp H m i 2) ≤ gi_sz H 93 + lsum H m zs.1)) (fun zs hza iha => ?_) (msp H m i 2, H) ⟨h, (sq.refl m H), (show msp H m i 2 ≤ msp H m i 2 by omega), (show msp H m i 2 ≤ msp H m (i + 1) 2 by omega), (show gi_sz H 93 + lsum H m (msp H m i 2) ≤ gi_sz H 93 + lsum H m (msp H m i 2) by omega)⟩
  obtain ⟨k, Hsa⟩ := zs
  obtain ⟨hpa, hta, hk1, hk2, hk3⟩ := hza
  have hpa : sd m Hsa := hpa
  have hta : sq m H Hsa := hta
  have hk1 : msp H m i 2 ≤ k := hk1
  have hk2 : k ≤ msp H m (i + 1) 2 := hk2
  have hk3 : gi_sz Hsa 93 + lsum H m (msp H m i 2) ≤ gi_sz H 93 + lsum H m k := hk3
  show mu_W _ _ (13, [(2, .inl (nI k)), (0, .inr (.inr (some 92))), (1, .inl (nI i))], [], Hsa) _
  refine mw_go mu_g180 (k := 3) (f1 := (18, [(2, .inl (nI k)), (0, .inr (.inr (some 92))), (1, .inl (nI i))], [.inr (.inr (mu_r Hsa 92 2)), .inl (nI k)], Hsa)) (C := [mu_is Hsa (some 92) 12]) rfl (show mu_is Hsa (some 92) 12 from hpa.1.is rfl) ?_
  rw [hpa.2.2]
  refine mw_go mu_g180 (k := 4) (f1 := (24, [(2, .inl (nI k)), (0, .inr (.inr (some 92))), (1, .inl (nI i))], [.inr (.inr (mu_r Hsa 92 2)), .inl (2 : Int32), .inl (nI i), .inr (.inr (some m)), .inl (nI k)], Hsa)) (C := [mu_is Hsa (some 92) 12]) rfl (show mu_is Hsa (some 92) 12 from hpa.1.is rfl) ?_
  rw [hpa.2.2]
  refine mw_go mu_g180 (k := 1) (f1 := (27, [(2, .inl (nI k)), (0, .inr (.inr (some 92))), (1, .inl (nI i))], [.inr (.inr (mu_r Hsa m 3)), .inl (2 : Int32), .inl (nI i), .inr (.inr (some m)), .inl (nI k)], Hsa)) (C := [mu_is Hsa (some m) 6]) rfl (show mu_is Hsa (some m) 6 from (show mu_is Hsa (some m) 6 from gi_im hpa.1 hpa.2.1)) ?_
  rw [(show mu_r Hsa m 3 = some (m + 7) from (gi_mr hpa.1 hpa.2.1 (j := 3) (by decide)).trans (congrArg some (by omega)))]
  refine mw_cI (fun _ => rfl) (show mu_is Hsa (some m) 6 from (show mu_is Hsa (some m) 6 from gi_im hpa.1 hpa.2.1)) (md_stop (d := (d + 3)) hpa.1 hpa.2.1 (md_w3 hpa.2.1) (c := 2) (by decide) (nI i)) (fun x2 H2 q2 => ?_)
  obtain ⟨rfl, hst2⟩ := q2
  obtain rfl : x2 = nI (msp H m (i + 1) 2) := hmo.stop hm h.1 hpa.1 hta hi (by decide) (by decide) (by show (m + 7) = m + 1 + 2 * 3; omega) hst2
  refine mw_if (P := (nI k) < (nI (msp H m (i + 1) 2))) (a := 33) (b := 112) (fun _ => rfl) trivial (fun h3 => ?_) (fun h3 => ?_)
  · -- 33: (nI k) < (nI (msp H m (i + 1) 2))
    have hkb : k < msp H m (i + 1) 2 := (nI_ltI (by omega) (by omega)).mp h3
    refine mw_go mu_g180 (k := 2) (f1 := (37, [(2, .inl (nI k)), (0, .inr (.inr (some 92))), (1, .inl (nI i))], [.inr (.inr (mu_r Hsa 92 2))], Hsa)) (C := [mu_is Hsa (some 92) 12]) rfl (show mu_is Hsa (some 92) 12 from hpa.1.is rfl) ?_
    rw [hpa.2.2]
    refine mw_go mu_g180 (k := 1) (f1 := (40, [(2, .inl (nI k)), (0, .inr (.inr (some 92))), (1, .inl (nI i))], [.inr (.inr (mu_r Hsa m 3))], Hsa)) (C := [mu_is Hsa (some m) 6]) rfl (show mu_is Hsa (some m) 6 from (show mu_is Hsa (some m) 6 from gi_im hpa.1 hpa.2.1)) ?_
    rw [(show mu_r Hsa m 3 = some (m + 7) from (gi_mr hpa.1 hpa.2.1 (j := 3) (by decide)).trans (congrArg some (by omega)))]
    refine mw_go mu_g180 (k := 2) (f1 := (42, [(2, .inl (nI k)), (0, .inr (.inr (some 92))), (1, .inl (nI i))], [.inl (1 : Int32), .inl (nI k), .inr (.inr (some (m + 7)))], Hsa)) (C := []) rfl trivial ?_
    refine mw_cIe (fun _ => rfl) (show mu_is Hsa (some (m + 7)) 10 from (hpa.1.w (md_w3 hpa.2.1)).1) (gi_get_ok (d := (d + 4)) (H := Hsa) hpa.1 (md_w3 hpa.2.1) (nI k) (j := 1) (by decide)) ?_
    refine mw_go mu_g180 (k := 1) (f1 := (46, [(3, .inl (rw_get Hsa (m + 7) 6 (gi_sz Hsa (m + 7)) (nI k) 1)), (2, .inl (nI k)), (0, .inr (.inr (some 92))), (1, .inl (nI i))], [], Hsa)) (C := []) rfl trivial ?_
    have e7 : gi_sz H (m + 1 + 2 * tabc 2) = gi_sz H (m + 7) := by rw [show m + 1 + 2 * tabc 2 = m + 7 by show m + 1 + 2 * 3 = m + 7; omega]
    have hk7 : k < gi_sz H (m + 7) := by omega
    have z7a : gi_sz Hsa (m + 7) = gi_sz H (m + 7) := (hta.2.2.1 3 (by decide)).1
    rw [vl.cell hm hpa.1 hta hk7 (c := 1) (by decide)]
    have hls0 := lsum_le (H := H) (m := m) (show k ≤ k + 1 by omega)
    have hls2 := lsum_le (H := H) (m := m) (show k + 1 ≤ msp H m (i + 1) 2 by omega)
    refine mw_go mu_g180 (k := 2) (f1 := (48, [(3, .inl (cel H (m + 7) (k * 6 + 1))), (2, .inl (nI k)), (0, .inr (.inr (some 92))), (1, .inl (nI i))], [.inl (1 : Int32), .inl (cel H (m + 7) (k * 6 + 1))], Hsa)) (C := []) rfl trivial ?_
    refine mw_if (P := (cel H (m + 7) (k * 6 + 1)) = (1 : Int32)) (a := 51) (b := 78) (fun _ => rfl) trivial (fun h5 => ?_) (fun h5 => ?_)
    · -- 51: (cel H (m + 7) (k * 6 + 1)) = (1 : Int32)
      refine mw_go mu_g180 (k := 2) (f1 := (55, [(3, .inl (cel H (m + 7) (k * 6 + 1))), (2, .inl (nI k)), (0, .inr (.inr (some 92))), (1, .inl (nI i))], [.inr (.inr (mu_r Hsa 92 2))], Hsa)) (C := [mu_is Hsa (some 92) 12]) rfl (show mu_is Hsa (some 92) 12 from hpa.1.is rfl) ?_
      rw [hpa.2.2]
      refine mw_go mu_g180 (k := 1) (f1 := (58, [(3, .inl (cel H (m + 7) (k * 6 + 1))), (2, .inl (nI k)), (0, .inr (.inr (some 92))), (1, .inl (nI i))], [.inr (.inr (mu_r Hsa m 3))], Hsa)) (C := [mu_is Hsa (some m) 6]) rfl (show mu_is Hsa (some m) 6 from (show mu_is Hsa (some m) 6 from gi_im hpa.1 hpa.2.1)) ?_
      rw [(show mu_r Hsa m 3 = some (m + 7) from (gi_mr hpa.1 hpa.2.1 (j := 3) (by decide)).trans (congrArg some (by omega)))]
      refine mw_go mu_g180 (k := 2) (f1 := (60, [(3, .inl (cel H (m + 7) (k * 6 + 1))), (2, .inl (nI k)), (0, .inr (.inr (some 92))), (1, .inl (nI i))], [.inl (2 : Int32), .inl (nI k), .inr (.inr (some (m + 7)))], Hsa)) (C := []) rfl trivial ?_
      refine mw_cIe (fun _ => rfl) (show mu_is Hsa (some (m + 7)) 10 from (hpa.1.w (md_w3 hpa.2.1)).1) (gi_get_ok (d := (d + 4)) (H := Hsa) hpa.1 (md_w3 hpa.2.1) (nI k) (j := 2) (by decide)) ?_
      refine mw_go mu_g180 (k := 2) (f1 := (67, [(3, .inl (cel H (m + 7) (k * 6 + 1))), (2, .inl (nI k)), (0, .inr (.inr (some 92))), (1, .inl (nI i))], [.inr (.inr (mu_r Hsa 92 2)), .inl (rw_get Hsa (m + 7) 6 (gi_sz Hsa (m + 7)) (nI k) 2)], Hsa)) (C := [mu_is Hsa (some 92) 12]) rfl (show mu_is Hsa (some 92) 12 from hpa.1.is rfl) ?_
      rw [hpa.2.2]
      refine mw_go mu_g180 (k := 1) (f1 := (70, [(3, .inl (cel H (m + 7) (k * 6 + 1))), (2, .inl (nI k)), (0, .inr (.inr (some 92))), (1, .inl (nI i))], [.inr (.inr (mu_r Hsa m 3)), .inl (rw_get Hsa (m + 7) 6 (gi_sz Hsa (m + 7)) (nI k) 2)], Hsa)) (C := [mu_is Hsa (some m) 6]) rfl (show mu_is Hsa (some m) 6 from (show mu_is Hsa (some m) 6 from gi_im hpa.1 hpa.2.1)) ?_
      rw [(show mu_r Hsa m 3 = some (m + 7) from (gi_mr hpa.1 hpa.2.1 (j := 3) (by decide)).trans (congrArg some (by omega)))]
      refine mw_go mu_g180 (k := 2) (f1 := (72, [(3, .inl (cel H (m + 7) (k * 6 + 1))), (2, .inl (nI k)), (0, .inr (.inr (some 92))), (1, .inl (nI i))], [.inl (3 : Int32), .inl (nI k), .inr (.inr (some (m + 7))), .inl (rw_get Hsa (m + 7) 6 (gi_sz Hsa (m + 7)) (nI k) 2)], Hsa)) (C := []) rfl trivial ?_
      refine mw_cIe (fun _ => rfl) (show mu_is Hsa (some (m + 7)) 10 from (hpa.1.w (md_w3 hpa.2.1)).1) (gi_get_ok (d := (d + 4)) (H := Hsa) hpa.1 (md_w3 hpa.2.1) (nI k) (j := 3) (by decide)) ?_
      refine mw_if (P := (rw_get Hsa (m + 7) 6 (gi_sz Hsa (m + 7)) (nI k) 3) < (rw_get Hsa (m + 7) 6 (gi_sz Hsa (m + 7)) (nI k) 2)) (a := 104) (b := 78) (fun _ => rfl) trivial (fun h8 => ?_) (fun h8 => ?_)
      · -- 104: (rw_get Hsa (m + 7) 6 (gi_sz Hsa (m + 7)) (nI k) 3) < (rw_get Hsa (m + 7) 6 (gi_sz Hsa (m + 7)) (nI k) 2)
        refine mw_go mu_g180 (k := 1) (f1 := (105, [(3, .inl (cel H (m + 7) (k * 6 + 1))), (2, .inl (nI k)), (0, .inr (.inr (some 92))), (1, .inl (nI i))], [.inl (0 : Int32)], Hsa)) (C := []) rfl trivial ?_
        exact mw_of (fun _ => mu_ret rfl (Or.inl rfl) ⟨_, Hsa, rfl, Or.inl rfl, hpa, hta, by omega⟩)
      · -- 78: not (rw_get Hsa (m + 7) 6 (gi_sz Hsa (m + 7)) (nI k) 3) < (rw_get Hsa (m + 7) 6 (gi_sz Hsa (m + 7)) (nI k) 2)
        refine mw_go mu_g180 (k := 2) (f1 := (80, [(3, .inl (cel H (m + 7) (k * 6 + 1))), (2, .inl (nI k)), (0, .inr (.inr (some 92))), (1, .inl (nI i))], [.inl (2 : Int32), .inl (cel H (m + 7) (k * 6 + 1))], Hsa)) (C := []) rfl trivial ?_
        refine mw_if (P := (cel H (m + 7) (k * 6 + 1)) = (2 : Int32)) (a := 83) (b := 91) (fun _ => rfl) trivial (fun h9 => ?_) (fun h9 => ?_)
        · -- 83: (cel H (m + 7) (k * 6 + 1)) = (2 : Int32)
          have ht2 : cel H (m + 7) (k * 6 + 1) = 2 := h9
          have hls1 : lsum H m (k + 1) = lsum H m k + vb H m k := by show lsum H m k + (if _ then _ else _) = _; rw [if_pos ht2]
          refine mw_go mu_g180 (k := 2) (f1 := (85, [(3, .inl (cel H (m + 7) (k * 6 + 1))), (2, .inl (nI k)), (0, .inr (.inr (some 92))), (1, .inl (nI i))], [.inl (nI k), .inr (.inr (some 92))], Hsa)) (C := []) rfl trivial ?_
          refine mw_cI (fun _ => rfl) (show mu_is Hsa (some 92) 12 from hpa.1.is rfl) (so_values (d := d) (w := k) hpa (hvl.sq hta) (by rw [z7a]; exact hk7) (by rw [hta.c7 (by decide)]; exact ht2) (by rw [(vl.same hta k).2.1]; omega) (by have z : gi_sz Hsa (m + 9) = gi_sz H (m + 9) := (hta.2.2.1 4 (by decide)).1; omega)) (fun x10 H10 q10 => ?_)
          obtain ⟨hx10, hp10, qt10, qz10⟩ := q10
          rw [(vl.same hta k).2.1] at qz10
          have ht10 := hta.trans qt10
          refine mw_if (P := x10 = 0) (a := 104) (b := 91) (fun _ => rfl) trivial (fun h11 => ?_) (fun h11 => ?_)
          · -- 104: x10 = 0
            refine mw_go mu_g180 (k := 1) (f1 := (105, [(3, .inl (cel H (m + 7) (k * 6 + 1))), (2, .inl (nI k)), (0, .inr (.inr (some 92))), (1, .inl (nI i))], [.inl (0 : Int32)], H10)) (C := []) rfl trivial ?_
            exact mw_of (fun _ => mu_ret rfl (Or.inl rfl) ⟨_, H10, rfl, Or.inl rfl, hp10, ht10, by omega⟩)
          · -- 91: not x10 = 0
            refine mw_go mu_g180 (k := 2) (f1 := (93, [(3, .inl (cel H (m + 7) (k * 6 + 1))), (2, .inl (nI k)), (0, .inr (.inr (some 92))), (1, .inl (nI i))], [.inl (3 : Int32), .inl (cel H (m + 7) (k * 6 + 1))], H10)) (C := []) rfl trivial ?_
            refine mw_if (P := (cel H (m + 7) (k * 6 + 1)) = (3 : Int32)) (a := 96) (b := 106) (fun _ => rfl) trivial (fun h12 => ?_) (fun h12 => ?_)
            · -- 96: (cel H (m + 7) (k * 6 + 1)) = (3 : Int32)
              refine mw_go mu_g180 (k := 2) (f1 := (98, [(3, .inl (cel H (m + 7) (k * 6 + 1))), (2, .inl (nI k)), (0, .inr (.inr (some 92))), (1, .inl (nI i))], [.inl (nI k), .inr (.inr (some 92))], H10)) (C := []) rfl trivial ?_
              refine mw_cI (fun _ => rfl) (show mu_is H10 (some 92) 12 from hp10.1.is rfl) (so_instanceFits (d := (d + 2)) hp10 (nI k)) (fun x13 H13 q13 => ?_)
              obtain ⟨qx13, hp13, qt13, qz13⟩ := q13; rcases qx13 with rfl | rfl
              · -- (0 : Int32)
                have ht13 := ht10.trans qt13
                refine mw_if (P := (0 : Int32) = 0) (a := 104) (b := 106) (fun _ => rfl) trivial (fun h14 => ?_) (fun h14 => absurd (by decide) h14)
                refine mw_go mu_g180 (k := 1) (f1 := (105, [(3, .inl (cel H (m + 7) (k * 6 + 1))), (2, .inl (nI k)), (0, .inr (.inr (some 92))), (1, .inl (nI i))], [.inl (0 : Int32)], H13)) (C := []) rfl trivial ?_
                exact mw_of (fun _ => mu_ret rfl (Or.inl rfl) ⟨_, H13, rfl, Or.inl rfl, hp13, ht13, by omega⟩)
              · -- (1 : Int32)
                have ht13 := ht10.trans qt13
                refine mw_if (P := (1 : Int32) = 0) (a := 104) (b := 106) (fun _ => rfl) trivial (fun h15 => absurd h15 (by decide)) (fun h15 => ?_)
                refine mw_go mu_g180 (k := 2) (f1 := (13, [(2, .inl ((nI k) + 1)), (3, .inl (cel H (m + 7) (k * 6 + 1))), (0, .inr (.inr (some 92))), (1, .inl (nI i))], [], H13)) (C := []) rfl trivial ?_
                rw [nI_1]
                exact mw_sub (by simp) (iha (k + 1, H13) ⟨hp13, ht13, (show msp H m i 2 ≤ (k + 1) by omega), (show (k + 1) ≤ msp H m (i + 1) 2 by omega), (show gi_sz H13 93 + lsum H m (msp H m i 2) ≤ gi_sz H 93 + lsum H m (k + 1) by omega)⟩ (by show msp H m (i + 1) 2 - (k + 1) < msp H m (i + 1) 2 - k; omega))
            · -- 106: not (cel H (m + 7) (k * 6 + 1)) = (3 : Int32)
              refine mw_go mu_g180 (k := 2) (f1 := (13, [(2, .inl ((nI k) + 1)), (3, .inl (cel H (m + 7) (k * 6 + 1))), (0, .inr (.inr (some 92))), (1, .inl (nI i))], [], H10)) (C := []) rfl trivial ?_
              rw [nI_1]
              exact mw_sub (by simp) (iha (k + 1, H10) ⟨hp10, ht10, (show msp H m i 2 ≤ (k + 1) by omega), (show (k + 1) ≤ msp H m (i + 1) 2 by omega), (show gi_sz H10 93 + lsum H m (msp H m i 2) ≤ gi_sz H 93 + lsum H m (k + 1) by omega)⟩ (by show msp H m (i + 1) 2 - (k + 1) < msp H m (i + 1) 2 - k; omega))
        · -- 91: not (cel H (m + 7) (k * 6 + 1)) = (2 : Int32)
          refine mw_go mu_g180 (k := 2) (f1 := (93, [(3, .inl (cel H (m + 7) (k * 6 + 1))), (2, .inl (nI k)), (0, .inr (.inr (some 92))), (1, .inl (nI i))], [.inl (3 : Int32), .inl (cel H (m + 7) (k * 6 + 1))], Hsa)) (C := []) rfl trivial ?_
          refine mw_if (P := (cel H (m + 7) (k * 6 + 1)) = (3 : Int32)) (a := 96) (b := 106) (fun _ => rfl) trivial (fun h16 => ?_) (fun h16 => ?_)
          · -- 96: (cel H (m + 7) (k * 6 + 1)) = (3 : Int32)
            refine mw_go mu_g180 (k := 2) (f1 := (98, [(3, .inl (cel H (m + 7) (k * 6 + 1))), (2, .inl (nI k)), (0, .inr (.inr (some 92))), (1, .inl (nI i))], [.inl (nI k), .inr (.inr (some 92))], Hsa)) (C := []) rfl trivial ?_
            refine mw_cI (fun _ => rfl) (show mu_is Hsa (some 92) 12 from hpa.1.is rfl) (so_instanceFits (d := (d + 2)) hpa (nI k)) (fun x17 H17 q17 => ?_)
            obtain ⟨qx17, hp17, qt17, qz17⟩ := q17; rcases qx17 with rfl | rfl
            · -- (0 : Int32)
              have ht17 := hta.trans qt17
              refine mw_if (P := (0 : Int32) = 0) (a := 104) (b := 106) (fun _ => rfl) trivial (fun h18 => ?_) (fun h18 => absurd (by decide) h18)
              refine mw_go mu_g180 (k := 1) (f1 := (105, [(3, .inl (cel H (m + 7) (k * 6 + 1))), (2, .inl (nI k)), (0, .inr (.inr (some 92))), (1, .inl (nI i))], [.inl (0 : Int32)], H17)) (C := []) rfl trivial ?_
              exact mw_of (fun _ => mu_ret rfl (Or.inl rfl) ⟨_, H17, rfl, Or.inl rfl, hp17, ht17, by omega⟩)
            · -- (1 : Int32)
              have ht17 := hta.trans qt17
              refine mw_if (P := (1 : Int32) = 0) (a := 104) (b := 106) (fun _ => rfl) trivial (fun h19 => absurd h19 (by decide)) (fun h19 => ?_)
              refine mw_go mu_g180 (k := 2) (f1 := (13, [(2, .inl ((nI k) + 1)), (3, .inl (cel H (m + 7) (k * 6 + 1))), (0, .inr (.inr (some 92))), (1, .inl (nI i))], [], H17)) (C := []) rfl trivial ?_
              rw [nI_1]
              exact mw_sub (by simp) (iha (k + 1, H17) ⟨hp17, ht17, (show msp H m i 2 ≤ (k + 1) by omega), (show (k + 1) ≤ msp H m (i + 1) 2 by omega), (show gi_sz H17 93 + lsum H m (msp H m i 2) ≤ gi_sz H 93 + lsum H m (k + 1) by omega)⟩ (by show msp H m (i + 1) 2 - (k + 1) < msp H m (i + 1) 2 - k; omega))
          · -- 106: not (cel H (m + 7) (k * 6 + 1)) = (3 : Int32)
            refine mw_go mu_g180 (k := 2) (f1 := (13, [(2, .inl ((nI k) + 1)), (3, .inl (cel H (m + 7) (k * 6 + 1))), (0, .inr (.inr (some 92))), (1, .inl (nI i))], [], Hsa)) (C := []) rfl trivial ?_
            rw [nI_1]
            exact mw_sub (by simp) (iha (k + 1, Hsa) ⟨hpa, hta, (show msp H m i 2 ≤ (k + 1) by omega), (show (k + 1) ≤ msp H m (i + 1) 2 by omega), (show gi_sz Hsa 93 + lsum H m (msp H m i 2) ≤ gi_sz H 93 + lsum H m (k + 1) by omega)⟩ (by show msp H m (i + 1) 2 - (k + 1) < msp H m (i + 1) 2 - k; omega))
    · -- 78: not (cel H (m + 7) (k * 6 + 1)) = (1 : Int32)
      refine mw_go mu_g180 (k := 2) (f1 := (80, [(3, .inl (cel H (m + 7) (k * 6 + 1))), (2, .inl (nI k)), (0, .inr (.inr (some 92))), (1, .inl (nI i))], [.inl (2 : Int32), .inl (cel H (m + 7) (k * 6 + 1))], Hsa)) (C := []) rfl trivial ?_
      refine mw_if (P := (cel H (m + 7) (k * 6 + 1)) = (2 : Int32)) (a := 83) (b := 91) (fun _ => rfl) trivial (fun h20 => ?_) (fun h20 => ?_)
      · -- 83: (cel H (m + 7) (k * 6 + 1)) = (2 : Int32)
        have ht2 : cel H (m + 7) (k * 6 + 1) = 2 := h20
        have hls1 : lsum H m (k + 1) = lsum H m k + vb H m k := by show lsum H m k + (if _ then _ else _) = _; rw [if_pos ht2]
        refine mw_go mu_g180 (k := 2) (f1 := (85, [(3, .inl (cel H (m + 7) (k * 6 + 1))), (2, .inl (nI k)), (0, .inr (.inr (some 92))), (1, .inl (nI i))], [.inl (nI k), .inr (.inr (some 92))], Hsa)) (C := []) rfl trivial ?_
        refine mw_cI (fun _ => rfl) (show mu_is Hsa (some 92) 12 from hpa.1.is rfl) (so_values (d := d) (w := k) hpa (hvl.sq hta) (by rw [z7a]; exact hk7) (by rw [hta.c7 (by decide)]; exact ht2) (by rw [(vl.same hta k).2.1]; omega) (by have z : gi_sz Hsa (m + 9) = gi_sz H (m + 9) := (hta.2.2.1 4 (by decide)).1; omega)) (fun x21 H21 q21 => ?_)
        obtain ⟨hx21, hp21, qt21, qz21⟩ := q21
        rw [(vl.same hta k).2.1] at qz21
        have ht21 := hta.trans qt21
        refine mw_if (P := x21 = 0) (a := 104) (b := 91) (fun _ => rfl) trivial (fun h22 => ?_) (fun h22 => ?_)
        · -- 104: x21 = 0
          refine mw_go mu_g180 (k := 1) (f1 := (105, [(3, .inl (cel H (m + 7) (k * 6 + 1))), (2, .inl (nI k)), (0, .inr (.inr (some 92))), (1, .inl (nI i))], [.inl (0 : Int32)], H21)) (C := []) rfl trivial ?_
          exact mw_of (fun _ => mu_ret rfl (Or.inl rfl) ⟨_, H21, rfl, Or.inl rfl, hp21, ht21, by omega⟩)
        · -- 91: not x21 = 0
          refine mw_go mu_g180 (k := 2) (f1 := (93, [(3, .inl (cel H (m + 7) (k * 6 + 1))), (2, .inl (nI k)), (0, .inr (.inr (some 92))), (1, .inl (nI i))], [.inl (3 : Int32), .inl (cel H (m + 7) (k * 6 + 1))], H21)) (C := []) rfl trivial ?_
          refine mw_if (P := (cel H (m + 7) (k * 6 + 1)) = (3 : Int32)) (a := 96) (b := 106) (fun _ => rfl) trivial (fun h23 => ?_) (fun h23 => ?_)
          · -- 96: (cel H (m + 7) (k * 6 + 1)) = (3 : Int32)
            refine mw_go mu_g180 (k := 2) (f1 := (98, [(3, .inl (cel H (m + 7) (k * 6 + 1))), (2, .inl (nI k)), (0, .inr (.inr (some 92))), (1, .inl (nI i))], [.inl (nI k), .inr (.inr (some 92))], H21)) (C := []) rfl trivial ?_
            refine mw_cI (fun _ => rfl) (show mu_is H21 (some 92) 12 from hp21.1.is rfl) (so_instanceFits (d := (d + 2)) hp21 (nI k)) (fun x24 H24 q24 => ?_)
            obtain ⟨qx24, hp24, qt24, qz24⟩ := q24; rcases qx24 with rfl | rfl
            · -- (0 : Int32)
              have ht24 := ht21.trans qt24
              refine mw_if (P := (0 : Int32) = 0) (a := 104) (b := 106) (fun _ => rfl) trivial (fun h25 => ?_) (fun h25 => absurd (by decide) h25)
              refine mw_go mu_g180 (k := 1) (f1 := (105, [(3, .inl (cel H (m + 7) (k * 6 + 1))), (2, .inl (nI k)), (0, .inr (.inr (some 92))), (1, .inl (nI i))], [.inl (0 : Int32)], H24)) (C := []) rfl trivial ?_
              exact mw_of (fun _ => mu_ret rfl (Or.inl rfl) ⟨_, H24, rfl, Or.inl rfl, hp24, ht24, by omega⟩)
            · -- (1 : Int32)
              have ht24 := ht21.trans qt24
              refine mw_if (P := (1 : Int32) = 0) (a := 104) (b := 106) (fun _ => rfl) trivial (fun h26 => absurd h26 (by decide)) (fun h26 => ?_)
              refine mw_go mu_g180 (k := 2) (f1 := (13, [(2, .inl ((nI k) + 1)), (3, .inl (cel H (m + 7) (k * 6 + 1))), (0, .inr (.inr (some 92))), (1, .inl (nI i))], [], H24)) (C := []) rfl trivial ?_
              rw [nI_1]
              exact mw_sub (by simp) (iha (k + 1, H24) ⟨hp24, ht24, (show msp H m i 2 ≤ (k + 1) by omega), (show (k + 1) ≤ msp H m (i + 1) 2 by omega), (show gi_sz H24 93 + lsum H m (msp H m i 2) ≤ gi_sz H 93 + lsum H m (k + 1) by omega)⟩ (by show msp H m (i + 1) 2 - (k + 1) < msp H m (i + 1) 2 - k; omega))
          · -- 106: not (cel H (m + 7) (k * 6 + 1)) = (3 : Int32)
            refine mw_go mu_g180 (k := 2) (f1 := (13, [(2, .inl ((nI k) + 1)), (3, .inl (cel H (m + 7) (k * 6 + 1))), (0, .inr (.inr (some 92))), (1, .inl (nI i))], [], H21)) (C := []) rfl trivial ?_
            rw [nI_1]
            exact mw_sub (by simp) (iha (k + 1, H21) ⟨hp21, ht21, (show msp H m i 2 ≤ (k + 1) by omega), (show (k + 1) ≤ msp H m (i + 1) 2 by omega), (show gi_sz H21 93 + lsum H m (msp H m i 2) ≤ gi_sz H 93 + lsum H m (k + 1) by omega)⟩ (by show msp H m (i + 1) 2 - (k + 1) < msp H m (i + 1) 2 - k; omega))
      · -- 91: not (cel H (m + 7) (k * 6 + 1)) = (2 : Int32)
        refine mw_go mu_g180 (k := 2) (f1 := (93, [(3, .inl (cel H (m + 7) (k * 6 + 1))), (2, .inl (nI k)), (0, .inr (.inr (some 92))), (1, .inl (nI i))], [.inl (3 : Int32), .inl (cel H (m + 7) (k * 6 + 1))], Hsa)) (C := []) rfl trivial ?_
        refine mw_if (P := (cel H (m + 7) (k * 6 + 1)) = (3 : Int32)) (a := 96) (b := 106) (fun _ => rfl) trivial (fun h27 => ?_) (fun h27 => ?_)
        · -- 96: (cel H (m + 7) (k * 6 + 1)) = (3 : Int32)
          refine mw_go mu_g180 (k := 2) (f1 := (98, [(3, .inl (cel H (m + 7) (k * 6 + 1))), (2, .inl (nI k)), (0, .inr (.inr (some 92))), (1, .inl (nI i))], [.inl (nI k), .inr (.inr (some 92))], Hsa)) (C := []) rfl trivial ?_
          refine mw_cI (fun _ => rfl) (show mu_is Hsa (some 92) 12 from hpa.1.is rfl) (so_instanceFits (d := (d + 2)) hpa (nI k)) (fun x28 H28 q28 => ?_)
          obtain ⟨qx28, hp28, qt28, qz28⟩ := q28; rcases qx28 with rfl | rfl
          · -- (0 : Int32)
            have ht28 := hta.trans qt28
            refine mw_if (P := (0 : Int32) = 0) (a := 104) (b := 106) (fun _ => rfl) trivial (fun h29 => ?_) (fun h29 => absurd (by decide) h29)
            refine mw_go mu_g180 (k := 1) (f1 := (105, [(3, .inl (cel H (m + 7) (k * 6 + 1))), (2, .inl (nI k)), (0, .inr (.inr (some 92))), (1, .inl (nI i))], [.inl (0 : Int32)], H28)) (C := []) rfl trivial ?_
            exact mw_of (fun _ => mu_ret rfl (Or.inl rfl) ⟨_, H28, rfl, Or.inl rfl, hp28, ht28, by omega⟩)
          · -- (1 : Int32)
            have ht28 := hta.trans qt28
            refine mw_if (P := (1 : Int32) = 0) (a := 104) (b := 106) (fun _ => rfl) trivial (fun h30 => absurd h30 (by decide)) (fun h30 => ?_)
            refine mw_go mu_g180 (k := 2) (f1 := (13, [(2, .inl ((nI k) + 1)), (3, .inl (cel H (m + 7) (k * 6 + 1))), (0, .inr (.inr (some 92))), (1, .inl (nI i))], [], H28)) (C := []) rfl trivial ?_
            rw [nI_1]
            exact mw_sub (by simp) (iha (k + 1, H28) ⟨hp28, ht28, (show msp H m i 2 ≤ (k + 1) by omega), (show (k + 1) ≤ msp H m (i + 1) 2 by omega), (show gi_sz H28 93 + lsum H m (msp H m i 2) ≤ gi_sz H 93 + lsum H m (k + 1) by omega)⟩ (by show msp H m (i + 1) 2 - (k + 1) < msp H m (i + 1) 2 - k; omega))
        · -- 106: not (cel H (m + 7) (k * 6 + 1)) = (3 : Int32)
          refine mw_go mu_g180 (k := 2) (f1 := (13, [(2, .inl ((nI k) + 1)), (3, .inl (cel H (m + 7) (k * 6 + 1))), (0, .inr (.inr (some 92))), (1, .inl (nI i))], [], Hsa)) (C := []) rfl trivial ?_
          rw [nI_1]
          exact mw_sub (by simp) (iha (k + 1, Hsa) ⟨hpa, hta, (show msp H m i 2 ≤ (k + 1) by omega), (show (k + 1) ≤ msp H m (i + 1) 2 by omega), (show gi_sz Hsa 93 + lsum H m (msp H m i 2) ≤ gi_sz H 93 + lsum H m (k + 1) by omega)⟩ (by show msp H m (i + 1) 2 - (k + 1) < msp H m (i + 1) 2 - k; omega))
  · -- 112: not (nI k) < (nI (msp H m (i + 1) 2))
    have hkb : ¬ k < msp H m (i + 1) 2 := fun z => h3 (nI_lt z (by omega))
    have hlk : lsum H m k = lsum H m (msp H m (i + 1) 2) := by rw [show k = msp H m (i + 1) 2 by omega]
    refine mw_go mu_g180 (k := 1) (f1 := (113, [(2, .inl (nI k)), (0, .inr (.inr (some 92))), (1, .inl (nI i))], [.inl (1 : Int32)], Hsa)) (C := []) rfl trivial ?_
    exact mw_of (fun _ => mu_ret rfl (Or.inr rfl) ⟨_, Hsa, rfl, Or.inr rfl, hpa, hta, by omega⟩)
end SoundMore2
