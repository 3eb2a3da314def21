/-! THE JUDGE'S VERDICT: what is known of a Model that is FINE -/
def FW (W : Ts) : Prop := JW W ∧ (Cr W 5 false 1 2 ∧ Cr W 4 true 2 3) ∧ (∀ q, q < (W 1).1 → ∀ n, sp W q 4 ≤ n → n < sp W (q + 1) 4 → LV W q n) ∧ VMs W ∧ ((W 11).1 ≤ 200 ∧ (W 12).1 ≤ 4001 ∧ (W 13).1 ≤ 4001 ∧ (W 15).1 ≤ 4001 ∧ (W 16).1 ≤ 4001 ∧ (W 17).1 ≤ 4001) ∧ 1 ≤ (W 1).1 ∧ ∀ w, w < (W 15).1 → (W 15).2 w 2 = -1
def FO (W s : Ts) : Prop := jz W s ∧ (∀ r, r < (s 14).1 → ∃ e, e < (W 13).1 ∧ (s 14).2 r 0 = nI e) ∧ (s 14).1 ≤ (W 13).1
def FN (m : Nat) (H : mu_H) : Prop := ∃ W, FW W ∧ FO W (ak m H) ∧ sm (bz W) 0 (W 15).1 ≤ 14
/-- what the verdict leaves -/
def vd (m : Nat) (C : Nat → Nat) (H H1 : mu_H) : Prop := gk (rS m) H H1 ∧ (∀ j, j ≠ 2 → mu_r H1 92 j = mu_r H 92 j) ∧ (∀ j, j ≠ 2 → j ≠ 3 → mu_r H1 91 j = mu_r H 91 j) ∧ (∀ j, j < 28 → gi_cap H1 (ra m j) ≤ max (gi_cap H (ra m j)) (C j)) ∧ jn H1 ≤ max (jn H) (2 * ((ak m H 0).1 + 1))
section Verdict
variable {H H1 H2 : mu_H} {m d : Nat} {C : Nat → Nat} {X Y Z W s : Ts}
theorem FW.mk (hc : CT X) (e : eqc X Y) {x : Int32} (hl : WL X Y x) (hF : FY Y) (hG : GI Y Z 4001) (ho : (Z 18).1 = 0) (hk : kz Z W) (hK : ∀ q, q < (Z 1).1 → ¬ (Z 1).2 q 7 = 0 → ∀ r, sp Z q 6 ≤ r → r < sp Z (q + 1) 6 → KN Z W q r) (hb : ∀ j, j < 19 → (W j).1 ≤ 67108864) : FW W := by
  have hJ := JW.mk hF hG ho hk hK hb
  have g1 := hG.1
  have wz : ∀ j, j ≠ 9 → j ≠ 10 → W j = Z j := hk.1
  have w1 : W 1 = Z 1 := wz 1 (by decide) (by decide)
  have wy : ∀ j, j < 9 → j ≠ 1 → W j = Y j := fun j h1 h2 => (wz j (by omega) (by omega)).trans (g1.1 j h2 (Or.inl (by omega)))
  have spz : ∀ k c, c ≤ 6 → sp W k c = sp Z k c := fun k c hc => by
    by_cases h6 : c = 6
    · subst h6
      unfold sp
      rw [w1, show (W (tabc 6)).1 = (Z (tabc 6)).1 from hk.2.1]
    · exact hk.spc (by omega)
  have spy : ∀ k c, c ≤ 6 → sp W k c = sp Y k c := fun k c hc => (spz k c hc).trans (g1.spc hc)
  have n1 : (W 1).1 = (Y 1).1 := by rw [w1]; exact g1.2.1
  have rgw : ∀ {k kd a b}, rg Y k kd a b → rg W k kd a b := fun h => rg_to (wy 0 (by decide) (by decide)) (fun k => spy k 6 (by decide)) h
  have hz := hG.sz
  refine ⟨hJ, ⟨fun k hk2 i h1 h2 => ?_, fun k hk2 i h1 h2 => ?_⟩, fun q hq n h1 h2 => ?_, fun k hk2 v h1 h2 z => ?_, ?_, ?_, ?_⟩
  · rw [n1] at hk2
    rw [spy _ _ (by decide)] at h1 h2
    obtain ⟨a, b, y1, y2, y3⟩ := hF.1.2.2.1.1 k hk2 i h1 h2
    exact ⟨a, b, by rw [show W (tabc 5) = Y (tabc 5) from wy 8 (by decide) (by decide)]; exact y1, by rw [show W (tabc 5) = Y (tabc 5) from wy 8 (by decide) (by decide)]; exact y2, rgw y3⟩
  · rw [n1] at hk2
    rw [spy _ _ (by decide)] at h1 h2
    obtain ⟨a, b, y1, y2, y3⟩ := hF.1.2.2.1.2.2.1 k hk2 i h1 h2
    exact ⟨a, b, by rw [show W (tabc 4) = Y (tabc 4) from wy 7 (by decide) (by decide)]; exact y1, by rw [show W (tabc 4) = Y (tabc 4) from wy 7 (by decide) (by decide)]; exact y2, rgw y3⟩
  · rw [n1, e.1 1 (by decide)] at hq
    rw [spy _ _ (by decide), e.spc (by decide)] at h1 h2
    obtain ⟨v, y1, y2, y3, y4⟩ := hl.2.2.1 q hq n h1 h2
    exact ⟨v, by rw [wy 7 (by decide) (by decide)]; exact y1, by rw [spy _ _ (by decide)]; exact y2, by rw [spy _ _ (by decide)]; exact y3, by rw [wy 3 (by decide) (by decide)]; exact y4⟩
  · rw [n1] at hk2
    rw [spy _ _ (by decide)] at h1 h2
    rw [wy 3 (by decide) (by decide)] at z
    obtain ⟨c, c1, c2, c3⟩ := hF.2.1 k hk2 v h1 h2 z
    exact ⟨c, by rw [n1]; exact c1, by rw [wy 3 (by decide) (by decide)]; exact c2, by rw [wy 3 (by decide) (by decide), spy _ _ (by decide), spy _ _ (by decide)]; exact c3⟩
  · rw [wz 11 (by decide) (by decide), wz 12 (by decide) (by decide), wz 13 (by decide) (by decide), wz 15 (by decide) (by decide), wz 16 (by decide) (by decide), wz 17 (by decide) (by decide)]
    exact ⟨hz.1, hz.2.1, hz.2.2.1, hz.2.2.2.1, hz.2.2.2.2.1, hz.2.2.2.2.2.1⟩
  · obtain ⟨⟨k, hk2, -⟩, -⟩ := hl
    rw [n1, e.1 1 (by decide)]
    omega
  · rw [wz 15 (by decide) (by decide)]
    exact hG.2.2.2.2.1.2.2.2
theorem jn_gk {S : Nat → Bool} (hg : gi H) (hk : gk S H H1) (hr : mu_r H1 91 2 = mu_r H 91 2) : jn H1 = jn H := by
  unfold jn
  rw [hr, (hk.2.1 _ (hg.o (p := 91) (j := 2) rfl).2.1).2]
theorem vd.start (hg : gi H) (hm : m = 2 ∨ m = 41) : gi (mu_sr H 91 3 (some m)) ∧ vd m C H (mu_sr H 91 3 (some m)) ∧ ak m (mu_sr H 91 3 (some m)) = ak m H ∧ jn (mu_sr H 91 3 (some m)) = jn H := by
  have g1 : gi (mu_sr H 91 3 (some m)) := hg.sr rfl rfl (by decide)
  have k1 : gk (fun p => Nat.beq p 91) H (mu_sr H 91 3 (some m)) := gk.sr hg (k := 3) rfl rfl (by decide) rfl (fun q hq => by cases hq; exact Or.inl (by omega))
  have e2 : mu_r (mu_sr H 91 3 (some m)) 91 2 = mu_r H 91 2 := by rw [mu_r_sr, if_neg (by decide)]
  have ej := jn_gk hg k1 e2
  refine ⟨g1, ⟨k1.mono (fun p hp => by rw [Nat.eq_of_beq_eq_true hp]; exact decide_eq_true (Or.inl rfl)), fun j _ => by rw [mu_r_sr, if_neg (fun z => by omega)], fun j _ h3 => by rw [mu_r_sr, if_neg (fun z => h3 z.2)], fun j hj => ?_, by rw [ej]; exact Nat.le_max_left _ _⟩, gT_keep (ra_ok hm) k1 (fun j hj => beq_f (ra_91 hm hj).1), ej⟩
  have : gi_cap (mu_sr H 91 3 (some m)) (ra m j) = gi_cap H (ra m j) := by
    unfold gi_cap
    rw [mu_r_sr, if_neg (fun z => (ra_91 hm hj).1 z.1)]
    rfl
  rw [this]
  exact Nat.le_max_left _ _
theorem vd.rv (h : vd m C H H1) (hg : gi H1) (h' : rv m C H1 H2) : vd m C H H2 := by
  obtain ⟨a, b, c, e, f⟩ := h
  obtain ⟨a', b', c', e'⟩ := h'
  refine ⟨a.trans a', fun j hj => (b' j hj).trans (b j hj), fun j hj h3 => (c' j).trans (c j hj h3), fun j hj => ?_, by rw [jn_gk hg a' (c' 2)]; exact f⟩
  have h1 := e j hj
  have h2 := e' j hj
  omega
theorem vd.rl (h : vd m C H H1) (hg : gi H1) (h' : rl m C H1 H2) : vd m C H H2 := by
  obtain ⟨a, b, c, e, f⟩ := h
  obtain ⟨a', b', c', e', -⟩ := h'
  refine ⟨a.trans a', fun j hj => (b' j).trans (b j hj), fun j hj h3 => (c' j).trans (c j hj h3), fun j hj => ?_, by rw [jn_gk hg a' (c' 2)]; exact f⟩
  have h1 := e j hj
  have h2 := e' j hj
  omega
theorem jyS_ra (hm : m = 2 ∨ m = 41) {j : Nat} (h19 : ¬ j < 19) (hj : j < 28) : jy_S m (ra m j) = false := by
  rcases hm with e | e <;> subst e
  · exact (show ∀ j, j < 28 → ¬ j < 19 → jy_S 2 (ra 2 j) = false by decide +kernel) j hj h19
  · exact (show ∀ j, j < 28 → ¬ j < 19 → jy_S 41 (ra 41 j) = false by decide +kernel) j hj h19
theorem ra_19 {j : Nat} (hj : j < 19) : ra m j = m + 1 + 2 * j ∧ wa j = ps_W j := ⟨by unfold ra; rw [if_pos hj], (show ∀ j, j < 19 → wa j = ps_W j by decide) j hj⟩
theorem jy.ak (h : jy m H H1) (hm : m = 2 ∨ m = 41) : (∀ j, j ≠ 13 → ak m H1 j = ak m H j) ∧ (ak m H1 13).1 = (ak m H 13).1 ∧ ∀ i c, c < 3 → (ak m H1 13).2 i c = (ak m H 13).2 i c := by
  refine ⟨fun j hj => ?_, ?_, fun i c hc => ?_⟩
  · by_cases h27 : j < 28
    · show gT (ra m) wa 28 H1 j = gT (ra m) wa 28 H j
      rw [gT_at h27, gT_at h27]
      by_cases h19 : j < 19
      · obtain ⟨e1, e2⟩ := ra_19 (m := m) h19
        rw [e1, e2]
        have hs := (h.2.2.1 j h19).1
        unfold tb
        rw [hs]
        refine Prod.ext rfl (funext fun a => funext fun b => ?_)
        show (if a < gi_sz H (m + 1 + 2 * j) ∧ b < ps_W j then _ else _) = (if a < gi_sz H (m + 1 + 2 * j) ∧ b < ps_W j then _ else _)
        by_cases hx : a < gi_sz H (m + 1 + 2 * j) ∧ b < ps_W j
        · rw [if_pos hx, if_pos hx]
          exact h.2.2.2 j h19 a b hx.2 (fun z => hj z.1)
        · rw [if_neg hx, if_neg hx]
      · exact h.1.tb ((ra_ok hm).1 j h27) (jyS_ra hm h19 h27)
    · show gT (ra m) wa 28 H1 j = gT (ra m) wa 28 H j
      rw [gT_out h27, gT_out h27]
  · rw [ak_n (by decide), ak_n (by decide)]
    exact (h.2.2.1 13 (by decide)).1
  · show (gT (ra m) wa 28 H1 13).2 i c = (gT (ra m) wa 28 H 13).2 i c
    rw [gT_at (by decide), gT_at (by decide)]
    have hs : gi_sz H1 (ra m 13) = gi_sz H (ra m 13) := (h.2.2.1 13 (by decide)).1
    show (if i < gi_sz H1 (ra m 13) ∧ c < wa 13 then cel H1 (ra m 13) (i * wa 13 + c) else 0) = (if i < gi_sz H (ra m 13) ∧ c < wa 13 then cel H (ra m 13) (i * wa 13 + c) else 0)
    rw [hs]
    by_cases hx : i < gi_sz H (ra m 13) ∧ c < wa 13
    · rw [if_pos hx, if_pos hx]
      exact h.2.2.2 13 (by decide) i c hx.2 (by omega)
    · rw [if_neg hx, if_neg hx]
theorem dm.jy (h : dm m H) (hj : jd m H1) (hy : jy m H H1) : dm m H1 := by
  refine ⟨hj.1, hj.2.1, ?_, hj.2.2⟩
  have hS : jy_S m 92 = false := by
    rcases h.2.1 with e | e <;> subst e <;> decide
  rw [(hy.1.obj (p := 92) (k := 12) rfl hS).r]
  exact h.2.2.1
theorem vd.jy (h : vd m C H H1) (hg : dm m H1) (hy : jy m H1 H2) : vd m C H H2 := by
  obtain ⟨a, b, c, e, f⟩ := h
  have hS : jy_S m 92 = false := by
    rcases hg.2.1 with e | e <;> subst e <;> decide
  have a' : gk (rS m) H1 H2 := hy.1.mono (fun p hp => by
    have hp := of_decide_eq_true hp
    exact decide_eq_true (by omega))
  refine ⟨a.trans a', fun j hj => ((hy.1.obj (p := 92) (k := 12) rfl hS).r j).trans (b j hj), fun j hj h3 => (hy.2.1 j).trans (c j hj h3), fun j hj => ?_, by rw [hy.len hg.1]; exact f⟩
  have h1 := e j hj
  have h2 : gi_cap H2 (ra m j) = gi_cap H1 (ra m j) := by
    by_cases h19 : j < 19
    · rw [(ra_19 h19).1]; exact (hy.2.2.1 j h19).2
    · exact hg.cap hj hy.1 (jyS_ra hg.2.1 h19 hj)
  omega
/-- the Judge's stack is fitted -/
theorem dm.stack {N : Nat} {x : Option Nat} (h : dm m H) (hv : vd m C H2 H) (hN : N = (ak m H2 0).1 + 1) (hN8 : N ≤ 8388608) (hL : jn H ≤ 8388608) (q : (N ≤ mu_n H (mu_p (mu_r H 91 2)) ∧ x = mu_r H 91 2 ∧ H1 = H) ∨ (mu_n H (mu_p (mu_r H 91 2)) < N ∧ x = some (mu_z H) ∧ H1 = mu_nw H 100 (max N (2 * mu_n H (mu_p (mu_r H 91 2)))) (max N (2 * mu_n H (mu_p (mu_r H 91 2)))))) : dm m (mu_sr H1 91 2 x) ∧ vd m C H2 (mu_sr H1 91 2 x) ∧ ak m (mu_sr H1 91 2 x) = ak m H ∧ N ≤ jn (mu_sr H1 91 2 x) := by
  obtain ⟨z1, z2, z3, z4, z5, z6, z7⟩ := h.1.fitted (S := fun p => Nat.beq p 91) (P := 91) (J := 2) (N := N) (x := x) (H1 := H1) rfl rfl rfl rfl hN8 hL q
  have hz := h.1.1.1
  have ejn : jn (mu_sr H1 91 2 x) = gi_len (mu_sr H1 91 2 x) (91, 2) := rfl
  have ej0 : jn H = gi_len H (91, 2) := rfl
  obtain ⟨a, b, c, e, f⟩ := hv
  refine ⟨⟨z1, h.2.1, by rw [z4 92 2 (by omega) (fun z => by omega)]; exact h.2.2.1, by rw [z4 91 3 (by omega) (fun z => by omega)]; exact h.2.2.2⟩, ⟨a.trans (z2.mono (fun p hp => by rw [Nat.eq_of_beq_eq_true hp]; exact decide_eq_true (Or.inl rfl))), fun j hj => (z4 92 j (by omega) (fun z => by omega)).trans (b j hj), fun j hj h3 => (z4 91 j (by omega) (fun z => hj z.2)).trans (c j hj h3), fun j hj => ?_, by omega⟩, gT_keep (ra_ok h.2.1) z2 (fun j hj => beq_f (ra_91 h.2.1 hj).1), by omega⟩
  rw [h.cap hj z2 (beq_f (ra_91 h.2.1 hj).1)]
  exact e j hj
end Verdict
