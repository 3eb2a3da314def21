/-! SOUND: values, types; a TEXT that is well formed -/
section SoundMore
variable {H H1 : mu_H} {m : Nat}
theorem vl.same (hq : sq m H H1) (k : Nat) : va H1 m k = va H m k ∧ vb H1 m k = vb H m k ∧ lsum H1 m k = lsum H m k := by
  have e2 : ∀ k, va H1 m k = va H m k := fun k => by unfold va; rw [hq.c7 (by decide)]
  have e3 : ∀ k, vb H1 m k = vb H m k := fun k => by unfold vb; rw [hq.c7 (by decide)]
  refine ⟨e2 k, e3 k, ?_⟩
  induction k with
  | zero => rfl
  | succ k ih =>
    show lsum H1 m k + (if cel H1 (m + 7) (k * 6 + 1) = 2 then vb H1 m k else 0) = lsum H m k + (if cel H (m + 7) (k * 6 + 1) = 2 then vb H m k else 0)
    rw [ih, e3, hq.c7 (by decide)]
theorem vl.sq (h : vl m H) (hq : sq m H H1) : vl m H1 := by
  have z7 : gi_sz H1 (m + 7) = gi_sz H (m + 7) := (hq.2.2.1 3 (by decide)).1
  have z9 : gi_sz H1 (m + 9) = gi_sz H (m + 9) := (hq.2.2.1 4 (by decide)).1
  refine ⟨fun k hk h2 => ?_, ?_⟩
  · rw [z7] at hk
    rw [hq.c7 (by decide)] at h2
    rw [hq.c7 (by decide), hq.c7 (by decide), (vl.same hq k).1, (vl.same hq k).2.1, z9]
    exact h.1 k hk h2
  · rw [z7, z9, (vl.same hq _).2.2]
    exact h.2
theorem mo.same (hq : sq m H H1) {i c : Nat} (h1 : 1 ≤ c) (h6 : c ≤ 6) : msp H1 m i c = msp H m i c := by
  have ht : tabc c < 19 := by
    have : c = 1 ∨ c = 2 ∨ c = 3 ∨ c = 4 ∨ c = 5 ∨ c = 6 := by omega
    rcases this with e | e | e | e | e | e <;> subst e <;> decide
  unfold msp
  rw [hq.m3, hq.c3 h6, (hq.2.2.1 _ ht).1]
theorem mo.sq (h : mo m H) (hq : sq m H H1) : mo m H1 := fun i hi c h1 h6 => by
  have ht : tabc c < 19 := by
    have : c = 1 ∨ c = 2 ∨ c = 3 ∨ c = 4 ∨ c = 5 ∨ c = 6 := by omega
    rcases this with e | e | e | e | e | e <;> subst e <;> decide
  rw [hq.m3] at hi
  rw [hq.c3 h6, mo.same hq h1 h6, mo.same hq h1 h6, (hq.2.2.1 _ ht).1]
  exact h i hi c h1 h6
theorem sd.main (h : sd m H) (x : Int32) : sd m (mu_si H 92 3 x) ∧ sq m H (mu_si H 92 3 x) ∧ gi_sz (mu_si H 92 3 x) 93 = gi_sz H 93 := by
  obtain ⟨a, b⟩ := h.other (H1 := mu_si H 92 3 x) (g := fun p => Nat.beq p 92) (h.1.si (k := 12) rfl rfl) (gk.si h.1 (k := 12) rfl rfl) (fun p hp => Or.inl (Nat.eq_of_beq_eq_true hp)) (fun _ => rfl) (Nat.le_refl _) (Nat.le_max_left _ _)
  exact ⟨a, b, rfl⟩
/-- Sound begins -/
def so_rst (m : Nat) (H : mu_H) : mu_H := rw_fill (mu_si (mu_sr H 92 2 (some m)) 93 2 0) 95 0 (fun _ => -1) 512
/-- what Sound leaves of the world as it found it -/
def sw (m : Nat) (H H1 : mu_H) : Prop := gk (sq_S m) H H1 ∧ (∀ j, j ≠ 2 → mu_r H1 92 j = mu_r H 92 j) ∧ (∀ j, j < 19 → gi_sz H1 (m + 1 + 2 * j) = gi_sz H (m + 1 + 2 * j) ∧ gi_cap H1 (m + 1 + 2 * j) = gi_cap H (m + 1 + 2 * j)) ∧ cp m H H1 ∧ gi_cap H1 93 ≤ max (gi_cap H 93) (10 * gi_sz H1 93 + 5)
theorem sw.sq {H2 : mu_H} (h : sw m H H1) (h' : sq m H1 H2) : sw m H H2 := by
  obtain ⟨a, b, c, e, f⟩ := h
  obtain ⟨a', b', c', e', f1, f2⟩ := h'
  exact ⟨a.trans a', fun j hj => (b' j).trans (b j hj), fun j hj => ⟨((c' j hj).1).trans (c j hj).1, ((c' j hj).2).trans (c j hj).2⟩, fun j hj i k hk hq => (e' j hj i k hk hq).trans (e j hj i k hk hq), by omega⟩
theorem sd.reset (hg : gi H) (hm : m = 2 ∨ m = 41) : sd m (so_rst m H) ∧ sw m H (so_rst m H) ∧ gi_sz (so_rst m H) 93 = 0 := by
  have g1 : gi (mu_sr H 92 2 (some m)) := hg.sr rfl rfl (by decide)
  have k1 : gk (sq_S m) H (mu_sr H 92 2 (some m)) := gk.sr hg (k := 12) rfl rfl (by decide) (decide_eq_true (Or.inl rfl)) (fun q hq => by cases hq; exact Or.inl (by omega))
  have g2 : gi (mu_si (mu_sr H 92 2 (some m)) 93 2 0) := (g1.size (r := 93) (W := 5) (k := 0) rfl (Nat.zero_le _)).1
  have k2 : gk (sq_S m) H (mu_si (mu_sr H 92 2 (some m)) 93 2 0) := k1.trans (gk.si g1 (k := 10) rfl (decide_eq_true (Or.inr (Or.inl rfl))))
  have ho : mu_onl (mu_si (mu_sr H 92 2 (some m)) 93 2 0) (so_rst m H) 95 := ⟨rfl, rfl, fun p j hp => by unfold so_rst; rw [mu_i_fill, if_neg (fun z => hp z.1)], rfl⟩
  have e95 : mu_r (mu_si (mu_sr H 92 2 (some m)) 93 2 0) 92 1 = some 95 := g2.r rfl
  have g3 : gi (so_rst m H) := g2.onl ho (Or.inl (g2.a (p := 95) (x := (100, 512)) rfl).1.2.2)
  have k3 : gk (sq_S m) (mu_si (mu_sr H 92 2 (some m)) 93 2 0) (so_rst m H) := gk.onla (p := 92) (j := 1) g2 (by rw [e95]; exact ho) (decide_eq_true (Or.inl rfl)) rfl
  have k13 := k2.trans k3
  have ei : ∀ p j, p ≠ 93 → p ≠ 95 → mu_i (so_rst m H) p j = mu_i H p j := fun p j h3 h5 => by
    rw [ho.2.2.1 p j h5, mu_i_si, if_neg (fun z => h3 z.1)]
    rfl
  have er : ∀ p j, ¬ (p = 92 ∧ j = 2) → mu_r (so_rst m H) p j = mu_r H p j := fun p j hn => by
    show mu_r (mu_sr H 92 2 (some m)) p j = _
    rw [mu_r_sr, if_neg hn]
  have hcap : ∀ r, r ≠ 92 → gi_cap (so_rst m H) r = gi_cap H r := fun r hr => by
    unfold gi_cap
    rw [er r 1 (fun z => hr z.1)]
    rfl
  refine ⟨⟨g3, hm, ?_⟩, ⟨k13, fun j hj => er 92 j (fun z => hj z.2), fun j hj => ⟨?_, hcap _ (by omega)⟩, fun j hj i c hc hq => ?_, ?_⟩, ?_⟩
  · show mu_r (mu_sr H 92 2 (some m)) 92 2 = some m
    rw [mu_r_sr, if_pos ⟨rfl, rfl⟩]
  · unfold gi_sz
    rw [ei _ 2 (by omega) (by omega)]
  · obtain ⟨-, -, -, hrk, hro⟩ := gi_w_ok (ps_wm hm hj)
    unfold cel
    rw [er _ 1 (fun z => by omega)]
    have hc1 := hg.cell (ps_wm hm hj)
    refine ei _ _ (hc1.1 93 10 rfl).symm (fun e => ?_)
    have h95 : mu_r H 92 1 = some 95 := hg.r rfl
    have h1 : mu_r H (m + 1 + 2 * j) 1 = mu_r H 92 1 := by rw [h95, ← e]; exact (hg.o hro).1
    have := (hg.2.2.2.2.2.1 _ 1 92 1 hro rfl h1).1
    omega
  · rw [hcap 93 (by decide)]; exact Nat.le_max_left _ _
  · unfold gi_sz
    rw [ho.2.2.1 93 2 (by decide)]
    rfl
end SoundMore
section SoundMore2
variable {H : mu_H} {d m i w : Nat}
/-- PathProver$Sound.valuesFit(I)Z -/
abbrev mu_m184 : ev_M := (5, (some .boolean), [], ev_b184)
theorem mu_g184 : mu_good mu_m184 := mu_goodk ev_k184
/-- PathProver$Sound.typesFit(I)Z -/
abbrev mu_m180 : ev_M := (4, (some .boolean), [], ev_b180)
theorem mu_g180 : mu_good mu_m180 := mu_goodk ev_k180
end SoundMore2
