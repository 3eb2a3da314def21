/-! Signs and marks: which constant a token is -/
theorem sgt_inj : ∀ s, s < 27 → ∀ s', s' < 27 → sgt s = sgt s' → s = s' := by decide +kernel
theorem sgt_fst : ∀ s, s < 27 → ltz ((sgt s).getD 0 0) = 0 := by decide +kernel
/-- a token that is a sign is that sign -/
theorem tis_sg {T : Nat → Int32} {n s : Nat} {t : Tok} (hf : tkf n t) (hw : tkw T t) (hs : s < 27) (h : ¬ tis T t (txt (1 + s)) = 0) : ¬ t.1 < 10 ∧ tks t = s := by
  unfold tis at h
  by_cases e1 : t.1 = 2
  · rw [if_pos e1] at h
    by_cases e2 : slc T t.2.1 t.2.2 = txt (1 + s)
    · obtain ⟨w1, w2⟩ := hw e1
      have e3 : (slc T t.2.1 t.2.2).getD 0 0 = T t.2.1 := by
        obtain ⟨m, hm⟩ : ∃ m, t.2.2 - t.2.1 = m + 1 := ⟨t.2.2 - t.2.1 - 1, by omega⟩
        unfold slc
        rw [hm, List.range_succ_eq_map]
        rfl
      have e4 := sgt_fst s hs
      rw [show sgt s = txt (1 + s) from rfl, ← e2, e3] at e4
      exact absurd e4 w2
    · rw [if_neg e2] at h; exact absurd rfl h
  · rw [if_neg e1] at h
    by_cases e2 : t.1 < 10
    · rw [if_pos e2] at h; exact absurd rfl h
    · rw [if_neg e2] at h
      refine ⟨e2, sgt_inj _ (hf.sg e2).1 _ hs (Decidable.byContradiction (fun c => h (if_neg c)))⟩
/-- the sign's constant, as the reference reads it -/
theorem pst.sgr {T : Nat → Int32} {n dep s : Nat} {t : Tok} {F : Nat → Prop} {H : mu_H} (h : pst T n t dep F H) (hs : s < 27) (h2 : ¬ tis T t (txt (1 + s)) = 0) : mu_i H 169 7 - 10 = nI s ∧ mu_is H (some 171) (mu_k H 171) ∧ (103 ≤ mu_k H 171 ∧ mu_k H 171 ≤ 110 ∧ mu_k H 171 ≠ 108) ∧ vp_in (nI s) (mu_n H 171) ∧ mu_r H 171 (nI s).toNatClampNeg = some (1000000 + (1 + s)) := by
  obtain ⟨e1, e2⟩ := tis_sg h.tkf h.tkw hs h2
  have k3 := h.1.2.2.2.1
  refine ⟨by rw [h.f7, (h.tkf.sg e1).2, e2], ⟨rfl, Nat.lt_trans (by decide) h.1.1, rfl⟩, by rw [k3.2.1]; decide, by rw [k3.2.2.1]; exact vp_in_nI hs (by decide), by rw [nI_clamp (show s < 2 ^ 31 by omega), k3.2.2.2 s hs, show 1000001 + s = 1000000 + (1 + s) by omega]⟩
theorem one_ne {T : Nat → Int32} {t : Tok} : ∀ {l : List Nat}, ¬ one T t l = 0 → t.1 ≠ 0 ∧ t.1 ≠ 1
  | [], h => absurd rfl h
  | j :: l, h => by
    rw [one] at h
    by_cases e : tis T t (txt j) = 0
    · rw [if_pos e] at h; exact one_ne h
    · exact tis_ne e
