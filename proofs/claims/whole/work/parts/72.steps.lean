/-! THE PARSER'S STATE: the next TOKEN, the stack's top -/
section ParserSteps
variable {H H1 : mu_H} {m B : Nat}
theorem ps_lt {x a b : Int32} (h : ¬ a < x) (hab : a < b) : x < b := Int32.lt_iff_toInt_lt.mpr (by
  have h1 := Int32.lt_iff_toInt_lt.mp hab
  have h2 : ¬ a.toInt < x.toInt := fun z => h (Int32.lt_iff_toInt_lt.mpr z)
  omega)
theorem ps_lt2 {x a b : Int32} (h : x < a) (hab : ¬ b < a) : x < b := Int32.lt_iff_toInt_lt.mpr (by
  have h1 := Int32.lt_iff_toInt_lt.mp h
  have h2 : ¬ b.toInt < a.toInt := fun z => hab (Int32.lt_iff_toInt_lt.mpr z)
  omega)
theorem rw_get_at {r W n i j : Nat} (hn : n ≤ 67108864) (hi : i < n) (hj : j < W) : rw_get H r W n (nI i) j = cel H r (i * W + j) := by
  unfold rw_get
  rw [if_neg (nI_pos (by omega)), nI_clamp (by omega), if_pos ⟨hi, hj⟩]
  rfl
/-- the next TOKEN -/
theorem ps_adv (h : ps m H) {a' k' d' : Int32} (ha : a' = mu_min (mu_i H 80 3 + 1) (mu_i H 82 2 - 1)) (hk : k' = rw_get (mu_si H 80 3 a') 82 3 (gi_sz (mu_si H 80 3 a') 82) a' 0) : ps m (mu_si (mu_si (mu_si H 80 3 a') 80 4 k') 80 5 d') ∧ pt m B H (mu_si (mu_si (mu_si H 80 3 a') 80 4 k') 80 5 d') ∧ pk H (mu_si (mu_si (mu_si H 80 3 a') 80 4 k') 80 5 d') ∧ ps_pot m (mu_si (mu_si (mu_si H 80 3 a') 80 4 k') 80 5 d') ≤ ps_pot m H ∧ (mu_i H 80 4 < 114 → ps_pot m (mu_si (mu_si (mu_si H 80 3 a') 80 4 k') 80 5 d') + 12 ≤ ps_pot m H) := by
  have h0 := h
  obtain ⟨a, b, c, e, f, n, g1, g2, g3⟩ := h
  have hR := a.w (r := 82) (W := 3) rfl
  have hn := rw_n hR
  have e2 : mu_i H 82 2 = nI (gi_sz H 82) := hR.2.2.2.1
  have hz : gi_sz (mu_si H 80 3 a') 82 = gi_sz H 82 := rfl
  have hne : ∀ r W, gi_w r = some W → mu_p (mu_r H r 1) ≠ 80 := fun r W hr => ((a.cell hr).1 80 7 rfl).symm
  have hcel : ∀ (x : Int32) (j : Nat) (G : mu_H) r W i, gi_w r = some W → mu_r G r 1 = mu_r H r 1 → cel (mu_si G 80 j x) r i = cel G r i := fun x j G r W i hr hG => by
    show mu_i (mu_si G 80 j x) (mu_p (mu_r G r 1)) i = mu_i G (mu_p (mu_r G r 1)) i
    rw [mu_i_si, if_neg (fun z => hne r W hr (by rw [← hG]; exact z.1))]
  have hcT : ∀ r W i, gi_w r = some W → cel (mu_si (mu_si (mu_si H 80 3 a') 80 4 k') 80 5 d') r i = cel H r i := fun r W i hr => by
    exact (hcel d' 5 (mu_si (mu_si H 80 3 a') 80 4 k') r W i hr rfl).trans ((hcel k' 4 (mu_si H 80 3 a') r W i hr rfl).trans (hcel a' 3 H r W i hr rfl))
  obtain ⟨n', hn1, hn2⟩ : ∃ n', a' = nI n' ∧ n' = min (n + 1) (gi_sz H 82 - 1) := by
    refine ⟨_, ?_, rfl⟩
    rw [ha, g1, e2, show nI n + 1 = nI (n + 1) from nI_1 n, show nI (gi_sz H 82) - 1 = nI (gi_sz H 82 - 1) from pk_sub (b := 1) (by omega)]
    unfold mu_min
    by_cases hx : gi_sz H 82 - 1 < n + 1
    · rw [if_pos ((nI_ltI (by omega) (by omega)).mpr hx), Nat.min_eq_right (by omega)]
    · rw [if_neg (fun z => hx ((nI_ltI (by omega) (by omega)).mp z)), Nat.min_eq_left (by omega)]
  have hk2 : k' = cel H 82 (n' * 3) := by
    rw [hk, hz, hn1, rw_get_at hn (by omega) (by decide), hcel _ 3 H 82 3 _ rfl rfl]
    rfl
  have i3 : mu_i (mu_si (mu_si (mu_si H 80 3 a') 80 4 k') 80 5 d') 80 3 = a' := rfl
  have i4 : mu_i (mu_si (mu_si (mu_si H 80 3 a') 80 4 k') 80 5 d') 80 4 = k' := rfl
  have hpot : ps_pot m (mu_si (mu_si (mu_si H 80 3 a') 80 4 k') 80 5 d') + 12 * (n' - n) = ps_pot m H := by
    have hw : ∀ r, r ≠ 80 → gi_sz (mu_si (mu_si (mu_si H 80 3 a') 80 4 k') 80 5 d') r = gi_sz H r := fun r hr => by
      unfold gi_sz
      rw [mu_i_si, if_neg (fun z => hr z.1), mu_i_si, if_neg (fun z => hr z.1), mu_i_si, if_neg (fun z => hr z.1)]
    have i6 : mu_i (mu_si (mu_si (mu_si H 80 3 a') 80 4 k') 80 5 d') 80 6 = mu_i H 80 6 := rfl
    unfold ps_pot
    rw [hw (m + 1) (by rcases b with e | e <;> omega), hw (m + 3) (by rcases b with e | e <;> omega), hw (m + 5) (by rcases b with e | e <;> omega), hw (m + 7) (by rcases b with e | e <;> omega), hw (m + 9) (by rcases b with e | e <;> omega), hw (m + 11) (by rcases b with e | e <;> omega), hw (m + 13) (by rcases b with e | e <;> omega), hw (m + 15) (by rcases b with e | e <;> omega), hw (m + 17) (by rcases b with e | e <;> omega), hw (m + 19) (by rcases b with e | e <;> omega), hw (m + 21) (by rcases b with e | e <;> omega), hw 89 (by decide), hw 82 (by decide), i6, i3, hn1, nI_clamp (by omega), g1, nI_clamp (by omega)]
    omega
  have hpt : pt m B (mu_si H 80 3 a') (mu_si (mu_si (mu_si H 80 3 a') 80 4 k') 80 5 d') := by
    refine ⟨(gk.si (a.si (k := 7) rfl rfl) (k := 7) rfl (decide_eq_true (Or.inl rfl))).trans (gk.si ((a.si (k := 7) rfl rfl).si (k := 7) rfl rfl) (k := 7) rfl (decide_eq_true (Or.inl rfl))), fun _ => rfl, fun i hi => ?_, Nat.le_max_left _ _, rfl⟩
    have hne2 : m + 1 + 2 * i ≠ 80 := by rcases b with e | e <;> omega
    have hw : gi_sz (mu_si (mu_si (mu_si H 80 3 a') 80 4 k') 80 5 d') (m + 1 + 2 * i) = gi_sz (mu_si H 80 3 a') (m + 1 + 2 * i) := by
      unfold gi_sz
      rw [mu_i_si, if_neg (fun z => hne2 z.1), mu_i_si, if_neg (fun z => hne2 z.1)]
    rw [hw]
    exact ⟨Nat.le_refl _, Nat.le_max_left _ _⟩
  have hps : ps m (mu_si (mu_si (mu_si H 80 3 a') 80 4 k') 80 5 d') := by
    refine ⟨((a.si (k := 7) rfl rfl).si (k := 7) rfl rfl).si (k := 7) rfl rfl, b, c, fun i hi => ?_, ?_, n', ?_, ?_, ?_⟩
    · rw [hcT 89 2 _ rfl]; exact e i hi
    · show 1 ≤ gi_sz H 82 ∧ ¬ cel (mu_si (mu_si (mu_si H 80 3 a') 80 4 k') 80 5 d') 82 ((gi_sz H 82 - 1) * 3) < 114
      rw [hcT 82 3 _ rfl]; exact f
    · rw [i3]; exact hn1
    · show n' < gi_sz H 82
      omega
    · rw [i4]
      show k' < 114 → n' + 1 < gi_sz H 82
      intro hlt
      by_cases hx : n' + 1 < gi_sz H 82
      · exact hx
      · exfalso
        rw [hk2, show n' = gi_sz H 82 - 1 by omega] at hlt
        exact f.2 hlt
  have hpk : pk H (mu_si (mu_si (mu_si H 80 3 a') 80 4 k') 80 5 d') := ⟨fun j hj => by rw [mu_i_si, if_neg (fun z => by omega), mu_i_si, if_neg (fun z => by omega), mu_i_si, if_neg (fun z => by omega)], rfl⟩
  refine ⟨hps, (pt.si h0).trans hpt, hpk, by omega, fun hlt => ?_⟩
  have := g3 hlt
  omega
def ps_top (H : mu_H) : Int32 := rw_get H 89 2 (gi_sz H 89) (mu_i H 89 2 - 1) 0
def ps_note (H : mu_H) : Int32 := rw_get H 89 2 (gi_sz H 89) (mu_i H 89 2 - 1) 1
theorem ps_top_ok (h : ps m H) : ∃ k, k < 54 ∧ ps_top H = nI k ∧ (gi_sz H 89 = 0 → k = 0) := by
  obtain ⟨a, b, c, e, -⟩ := h
  have hR := a.w (r := 89) (W := 2) rfl
  have hn := rw_n hR
  have e2 : mu_i H 89 2 = nI (gi_sz H 89) := hR.2.2.2.1
  unfold ps_top
  rw [e2]
  cases hs : gi_sz H 89 with
  | zero => exact ⟨0, by decide, if_pos (by decide), fun _ => rfl⟩
  | succ n =>
    obtain ⟨k, hk, ek⟩ := e n (by omega)
    refine ⟨k, hk, ?_, fun z => by omega⟩
    rw [nI_pred, rw_get_at (by omega) (by omega) (by decide)]
    exact ek
theorem ps_top_sz (h : ps m H) {x : Int32} (hx : ps_top H = x) (h0 : ¬ x = 0) : 1 ≤ gi_sz H 89 := by
  obtain ⟨k, hk, ek, hz⟩ := ps_top_ok h
  by_cases hs : gi_sz H 89 = 0
  · exact absurd (by rw [← hx, ek, hz hs]; rfl) h0
  · omega
/-- the stack's top is taken away -/
theorem ps_cut (h : ps m H) : ps m (mu_si H 89 2 (mu_max 0 (mu_min (mu_i H 89 2) (mu_i H 89 2 - 1)))) ∧ pt m B H (mu_si H 89 2 (mu_max 0 (mu_min (mu_i H 89 2) (mu_i H 89 2 - 1)))) ∧ gi_sz (mu_si H 89 2 (mu_max 0 (mu_min (mu_i H 89 2) (mu_i H 89 2 - 1)))) 89 = gi_sz H 89 - 1 ∧ ps_pot m (mu_si H 89 2 (mu_max 0 (mu_min (mu_i H 89 2) (mu_i H 89 2 - 1)))) + 4 * (gi_sz H 89 - (gi_sz H 89 - 1)) = ps_pot m H := by
  have h0 := h
  obtain ⟨a, b, c, e, f, g⟩ := h
  have hR := a.w (r := 89) (W := 2) rfl
  have hn := rw_n hR
  have e2 : mu_i H 89 2 = nI (gi_sz H 89) := hR.2.2.2.1
  obtain ⟨k, hk, ek, hk2⟩ := a.cutn (r := 89) (W := 2) rfl (mu_i H 89 2 - 1)
  have hk3 : k = gi_sz H 89 - 1 := by
    by_cases hs : gi_sz H 89 = 0
    · omega
    · exact hk2 (gi_sz H 89 - 1) (by rw [e2]; exact pk_sub (b := 1) (by omega)) (by omega)
  rw [ek, hk3]
  have hk4 : gi_sz H 89 - 1 ≤ gi_sz H 89 := by omega
  obtain ⟨z1, z2, z3⟩ := a.size (r := 89) (W := 2) rfl hk4
  have hcel : ∀ r W i, gi_w r = some W → cel (mu_si H 89 2 (nI (gi_sz H 89 - 1))) r i = cel H r i := fun r W i hr => by
    show mu_i (mu_si H 89 2 (nI (gi_sz H 89 - 1))) (mu_p (mu_r H r 1)) i = mu_i H (mu_p (mu_r H r 1)) i
    rw [mu_i_si, if_neg (fun z => ((a.cell hr).1 89 10 rfl).symm z.1)]
  refine ⟨⟨z1, b, c, fun i hi => ?_, ?_, ?_⟩, ⟨gk.si a (k := 10) rfl (decide_eq_true (Or.inr (Or.inr (Or.inr (Or.inl rfl))))), fun _ => rfl, fun i hi => ?_, Nat.le_max_left _ _, rfl⟩, z2, ?_⟩
  · rw [hcel 89 2 _ rfl]; rw [z2] at hi; exact e i (by omega)
  · rw [z3 82 (by decide), hcel 82 3 _ rfl]; exact f
  · rw [z3 82 (by decide)]; exact g
  · rw [z3 _ (by rcases b with e | e <;> omega)]
    exact ⟨Nat.le_refl _, Nat.le_max_left _ _⟩
  · have i3 : mu_i (mu_si H 89 2 (nI (gi_sz H 89 - 1))) 80 3 = mu_i H 80 3 := rfl
    have i6 : mu_i (mu_si H 89 2 (nI (gi_sz H 89 - 1))) 80 6 = mu_i H 80 6 := rfl
    unfold ps_pot
    rw [z3 (m + 1) (by rcases b with e | e <;> omega), z3 (m + 3) (by rcases b with e | e <;> omega), z3 (m + 5) (by rcases b with e | e <;> omega), z3 (m + 7) (by rcases b with e | e <;> omega), z3 (m + 9) (by rcases b with e | e <;> omega), z3 (m + 11) (by rcases b with e | e <;> omega), z3 (m + 13) (by rcases b with e | e <;> omega), z3 (m + 15) (by rcases b with e | e <;> omega), z3 (m + 17) (by rcases b with e | e <;> omega), z3 (m + 19) (by rcases b with e | e <;> omega), z3 (m + 21) (by rcases b with e | e <;> omega), z2, z3 82 (by decide), i3, i6]
    omega
/-- the stack's row is written -/
theorem ps_set89 (h : ps m H) {j : Nat} {row v : Int32} (hj : j < 2) (hv : j = 0 → ∃ k, k < 54 ∧ v = nI k) : ps m (rw_set H 89 2 (gi_sz H 89) row j v) ∧ pt m B H (rw_set H 89 2 (gi_sz H 89) row j v) ∧ (∀ i, mu_i (rw_set H 89 2 (gi_sz H 89) row j v) 80 i = mu_i H 80 i) ∧ gi_sz (rw_set H 89 2 (gi_sz H 89) row j v) 89 = gi_sz H 89 ∧ ps_pot m (rw_set H 89 2 (gi_sz H 89) row j v) = ps_pot m H := by
  have h0 := h
  obtain ⟨a, b, c, e, f, g⟩ := h
  obtain ⟨g1, g2⟩ := a.set (r := 89) (W := 2) (j := j) (row := row) (v := v) rfl
  have hk : gk (fun p => Nat.beq p 89) H (rw_set H 89 2 (gi_sz H 89) row j v) := gk.set a rfl rfl
  have s80 := hk.obj (p := 80) (k := 7) rfl rfl
  have s82 := hk.obj (p := 82) (k := 10) rfl rfl
  have e82 : ∀ i, cel (rw_set H 89 2 (gi_sz H 89) row j v) 82 i = cel H 82 i := fun i => by unfold cel; rw [s82.r]; exact (hk.2.2.2.1 82 1 rfl rfl).i i
  have hz : ∀ r' W', gi_w r' = some W' → gi_sz (rw_set H 89 2 (gi_sz H 89) row j v) r' = gi_sz H r' := fun r' W' hw => by
    unfold gi_sz
    exact congrArg _ (g2 r' 2 (by have : mu_k H r' = 10 := (a.w hw).1.2.2; omega))
  have hc : ∀ r', gi_cap (rw_set H 89 2 (gi_sz H 89) row j v) r' = gi_cap H r' := fun r' => by
    unfold gi_cap mu_n
    rw [rw_set_r, (rw_set_eq H 89 2 (gi_sz H 89) row j v).2.1]
  refine ⟨⟨g1, b, by rw [s80.r]; exact c, fun i hi => ?_, by rw [hz 82 3 rfl, e82]; exact f, by rw [s80.i, s80.i, hz 82 3 rfl]; exact g⟩, ⟨hk.mono (fun p hp => decide_eq_true (Or.inr (Or.inr (Or.inr (Or.inl (Nat.eq_of_beq_eq_true hp)))))), fun i => rw_set_r _ _ _ _ _ _ _ _ _, fun i hi => ?_, by rw [hc]; exact Nat.le_max_left _ _, hc 86⟩, s80.i, hz 89 2 rfl, ?_⟩
  · rw [hz 89 2 rfl] at hi
    have hq : cel (rw_set H 89 2 (gi_sz H 89) row j v) 89 (i * 2) = mu_i (rw_set H 89 2 (gi_sz H 89) row j v) (mu_p (mu_r H 89 1)) (i * 2) := by unfold cel; rw [rw_set_r]
    rw [hq]
    unfold rw_set
    split
    · exact e i hi
    · split
      · rw [mu_i_si]
        split
        · rename_i hx
          have hj0 : j = 0 := by have := hx.2; omega
          exact hv hj0
        · exact e i hi
      · exact e i hi
  · rw [hz _ _ (ps_wm b hi), hc]
    exact ⟨Nat.le_refl _, Nat.le_max_left _ _⟩
  · unfold ps_pot
    rw [hz (m + 1) _ h0.w0, hz (m + 3) _ h0.w1, hz (m + 5) _ h0.w2, hz (m + 7) _ h0.w3, hz (m + 9) _ h0.w4, hz (m + 11) _ h0.w5, hz (m + 13) _ h0.w6, hz (m + 15) _ h0.w7, hz (m + 17) _ h0.w8, hz (m + 19) _ h0.w9, hz (m + 21) _ h0.w10, hz 89 2 rfl, hz 82 3 rfl, s80.i, s80.i]
end ParserSteps
