/-! SETS OF THE PROVER: where references stay, they stay -/
section PoolStays
variable {H H1 : mu_H} {m b c q L : Nat} {C : Nat → Nat}
theorem dR_pl (hb : b = 161 ∨ b = 163) (hm : (b, c) ∈ plp) : (ud m H).2.2.2.1 b c = mu_r H b c := by
  show dR H b c = _
  unfold dR
  rcases hb with rfl | rfl
  · rw [if_neg (by decide), if_pos ⟨hm, by decide⟩]
  · rw [if_neg (by decide), if_pos ⟨hm, by decide⟩]
theorem dP_pl (hm : (b, c) ∈ plp) : (ud m H).2.2.2.2.2 b c = (mu_r H b c).map (fun q => (mu_n H q, fun k => mu_l H q k)) := by
  show dP H b c = _
  unfold dP
  rw [if_pos hm]
theorem dP_no (hm : ¬ (b, c) ∈ plp) : (ud m H).2.2.2.2.2 b c = none := by
  show dP H b c = _
  unfold dP
  rw [if_neg hm]
theorem pool_none (hb : b = 161 ∨ b = 163) (e : (ud m H1).2.2.2.1 b c = (ud m H).2.2.2.1 b c) (h : (ud m H).2.2.2.2.2 b c = none) : (ud m H1).2.2.2.2.2 b c = none := by
  by_cases hm : (b, c) ∈ plp
  · rw [dR_pl hb hm, dR_pl hb hm] at e
    rw [dP_pl hm] at h ⊢
    rw [e]
    cases hr : mu_r H b c with
    | none => rfl
    | some q => rw [hr] at h; cases h
  · exact dP_no hm
theorem LSN.ur (hu : um m H) (hr : ur m C H H1) (hb : b = 161 ∨ b = 163) (e : (ud m H1).2.2.2.1 b c = (ud m H).2.2.2.1 b c) (h : LSN (ud m H) b c q L) : LSN (ud m H1) b c q L := by
  rcases h with ⟨y, -⟩ | ⟨y1, hm, y3, f, y4⟩
  · rcases hb with w | w
    · rw [w] at y; cases y
    · rw [w] at y; cases y
  · refine Or.inr ⟨y1, hm, e.trans y3, ?_⟩
    rw [dR_pl hb hm] at y3
    rw [dR_pl hb hm, dR_pl hb hm] at e
    rw [dP_pl hm, y3] at y4
    rw [dP_pl hm, e, y3]
    have hq : q < mu_z H := by
      rcases hu.1.2.1.1 (b, c) hm with w | ⟨w, -⟩
      · have w : mu_r H b c = none := w
        rw [y3] at w; cases w
      · have w : mu_is H (mu_r H b c) 102 := w
        rw [y3] at w
        exact w.2.1
    have hn := (hr.1.2.1 q hq).2
    have hL : mu_n H q = L := (Prod.mk.inj (Option.some.inj y4)).1
    refine ⟨fun k => mu_l H1 q k, ?_⟩
    show some (mu_n H1 q, fun k => mu_l H1 q k) = some (L, fun k => mu_l H1 q k)
    rw [hn, hL]
theorem PLS.ur (hu : um m H) (hr : ur m C H H1) (e : ∀ b c, b = 161 ∨ b = 163 → (ud m H1).2.2.2.1 b c = (ud m H).2.2.2.1 b c) (h : PLS (ud m H)) : PLS (ud m H1) := by
  refine ⟨fun c hc => ?_, fun c hc => ?_⟩
  · rcases h.1 c hc with y | ⟨q, y⟩
    · exact Or.inl (pool_none (Or.inl rfl) (e 161 c (Or.inl rfl)) y)
    · exact Or.inr ⟨q, y.ur hu hr (Or.inl rfl) (e 161 c (Or.inl rfl))⟩
  · rcases h.2 c hc with y | ⟨q, L, y1, y⟩
    · exact Or.inl (pool_none (Or.inr rfl) (e 163 c (Or.inr rfl)) y)
    · exact Or.inr ⟨q, L, y1, y.ur hu hr (Or.inr rfl) (e 163 c (Or.inr rfl))⟩
end PoolStays
