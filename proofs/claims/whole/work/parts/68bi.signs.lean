/-! The reference: signs -/
/-- the text of a sign -/
def sgt (s : Nat) : List Int32 := ev_kb.getD (1 + s) []
/-- 1: from the letter k on the text stands at p -/
def mtz (T : Nat → Int32) (p : Nat) (t : List Int32) : Nat → Nat → Int32
  | 0, _ => 1
  | m + 1, k => if T (p + k) = t.getD k 0 then mtz T p t m (k + 1) else 0
def ftz (T : Nat → Int32) (n p : Nat) (t : List Int32) : Int32 := if p + t.length ≤ n then mtz T p t t.length 0 else 0
/-- the first sign from s on that stands at p -/
def fsz (T : Nat → Int32) (n p : Nat) : Nat → Nat → Nat
  | 0, s => s
  | m + 1, s => if ftz T n p (sgt s) = 0 then fsz T n p m (s + 1) else s
theorem sgt_chr : ∀ s, s < 27 → ∀ k, k < (sgt s).length → tx_chr ((sgt s).getD k 0) = (sgt s).getD k 0 := by decide +kernel
theorem sgt_len : ∀ s, s < 27 → 0 < (sgt s).length ∧ (sgt s).length < 4 := by decide +kernel
theorem mtz_01 {T : Nat → Int32} {p : Nat} {t : List Int32} : ∀ m k, mtz T p t m k = 0 ∨ mtz T p t m k = 1
  | 0, _ => Or.inr rfl
  | m + 1, k => by
    rw [mtz]
    split
    · exact mtz_01 m (k + 1)
    · exact Or.inl rfl
theorem rf_slen {d s : Nat} {H : mu_H} (hs : s < 27) : mu_TI (mu_D (d + 2)) 6 [.inr (.inr (some (1000000 + (1 + s))))] H (fun x H1 => x = nI (sgt s).length ∧ H1 = H) := rf_len (by omega)
theorem rf_schr {d s k : Nat} {H : mu_H} (hs : s < 27) (hk : k < (sgt s).length) : mu_TI (mu_D (d + 4)) 8 [.inr (.inr (some (1000000 + (1 + s)))), .inl (nI k)] H (fun x H1 => x = (sgt s).getD k 0 ∧ H1 = H) :=
  (rf_chr (d := d) (j := 1 + s) (i := k) (by omega) hk).imp (fun x H1 q => ⟨q.1.trans (sgt_chr s hs k hk), q.2⟩)
theorem rf_fitN {d n p s k : Nat} {T : Nat → Int32} {H : mu_H} {Φ : mu_R → Prop} (h : rgd H) (ht : rtp H T n) (hp : mu_i H 169 6 = nI p) (hs : s < 27) (hk : mu_W (mu_D (d + 4)) mu_m51 (324, [(2, .inl 0), (1, .inl (nI s)), (0, .inr (.inr (some 169)))], [], H) Φ) : mu_W (mu_D (d + 4)) mu_m51 (271, [(3, .inl (nI k)), (2, .inl 0), (1, .inl (nI s)), (0, .inr (.inr (some 169)))], [], H) Φ := by
  have hkl : ∀ j, 170 ≤ j → j ≤ 199 → j < mu_z H := fun j _ _ => by have := h.1; omega
  have hs1 : mu_is H (some 171) (mu_k H 171) := ⟨rfl, hkl 171 (by decide) (by decide), rfl⟩
  have hs1b : mu_is H (mu_r H 169 4) (mu_k H (mu_p (mu_r H 169 4))) := by rw [h.2.2.2.1.1]; exact hs1
  have hs2 : 103 ≤ mu_k H (mu_p (mu_r H 169 4)) ∧ mu_k H (mu_p (mu_r H 169 4)) ≤ 110 ∧ mu_k H (mu_p (mu_r H 169 4)) ≠ 108 := by rw [h.2.2.2.1.1, show mu_k H (mu_p (some 171)) = 103 from h.2.2.2.1.2.1]; decide
  have hs3 : 100 ≤ mu_k H (mu_p (mu_r H 169 4)) := by rw [h.2.2.2.1.1, show mu_k H (mu_p (some 171)) = 103 from h.2.2.2.1.2.1]; decide
  have hs4 : vp_in (nI s) (mu_n H (mu_p (mu_r H 169 4))) := by rw [h.2.2.2.1.1, show mu_n H (mu_p (some 171)) = 27 from h.2.2.2.1.2.2.1]; exact vp_in_nI hs (by decide)
  have hss : mu_r H 171 (nI s).toNatClampNeg = some (1000000 + (1 + s)) := by rw [nI_clamp (show s < 2 ^ 31 by omega), h.2.2.2.1.2.2.2 s hs, show 1000001 + s = 1000000 + (1 + s) by omega]
  obtain ⟨sl1, sl2⟩ := sgt_len s hs
  refine mw_go mu_g51 (k := 5) (f1 := (278, [(3, .inl (nI k)), (2, .inl (0 : Int32)), (1, .inl (nI s)), (0, .inr (.inr (some 169)))], [.inr (.inr (mu_r H (mu_p (mu_r H 169 4)) (nI s).toNatClampNeg)), .inl (nI k)], H)) (C := [mu_is H (some 169) 1, mu_is H (mu_r H 169 4) (mu_k H (mu_p (mu_r H 169 4))), 103 ≤ mu_k H (mu_p (mu_r H 169 4)) ∧ mu_k H (mu_p (mu_r H 169 4)) ≤ 110 ∧ mu_k H (mu_p (mu_r H 169 4)) ≠ 108, vp_in (nI s) (mu_n H (mu_p (mu_r H 169 4)))]) rfl (show (mu_is H (some 169) 1) ∧ (mu_is H (mu_r H 169 4) (mu_k H (mu_p (mu_r H 169 4)))) ∧ (103 ≤ mu_k H (mu_p (mu_r H 169 4)) ∧ mu_k H (mu_p (mu_r H 169 4)) ≤ 110 ∧ mu_k H (mu_p (mu_r H 169 4)) ≠ 108) ∧ (vp_in (nI s) (mu_n H (mu_p (mu_r H 169 4)))) from ⟨h.is, hs1b, hs2, hs4⟩) ?_
  refine mw_fr (f' := (278, [(3, .inl (nI k)), (2, .inl (0 : Int32)), (1, .inl (nI s)), (0, .inr (.inr (some 169)))], [.inr (.inr (mu_r H 171 (nI s).toNatClampNeg)), .inl (nI k)], H)) (by first | (rw [h.2.2.2.1.1]; done) | (rw [h.2.2.2.1.1]; rfl)) ?_
  refine mw_fr (f' := (278, [(3, .inl (nI k)), (2, .inl (0 : Int32)), (1, .inl (nI s)), (0, .inr (.inr (some 169)))], [.inr (.inr (some (1000000 + (1 + s)))), .inl (nI k)], H)) (by first | (rw [hss]; done) | (rw [hss]; rfl)) ?_
  refine mw_cIe (fun _ => rfl) (show mu_str (some (1000000 + (1 + s))) from ⟨rfl, Nat.le_add_right _ _, by show 1000000 + (1 + s) < 1000000 + 79; omega⟩) (rf_slen hs) ?_
  refine mw_if (P := (nI k) < (nI (sgt s).length)) (a := 284) (b := 324) (fun _ => rfl) trivial (fun h1 => ?_) (fun h1 => ?_)
  · -- 284
    refine mw_go mu_g51 (k := 1) (f1 := (285, [(3, .inl (nI k)), (2, .inl (0 : Int32)), (1, .inl (nI s)), (0, .inr (.inr (some 169)))], [.inl (0 : Int32)], H)) (C := []) rfl trivial ?_
    refine mw_if (P := (0 : Int32) = 0) (a := 324) (b := 288) (fun _ => rfl) trivial (fun h2 => ?_) (fun h2 => absurd rfl h2)
    · -- 324
      exact mw_sub (L' := [(2, .inl 0), (1, .inl (nI s)), (0, .inr (.inr (some 169)))]) (by simp) hk
  · -- 324
    exact mw_sub (L' := [(2, .inl 0), (1, .inl (nI s)), (0, .inr (.inr (some 169)))]) (by simp) hk
theorem rf_fit0 {d n p s : Nat} {T : Nat → Int32} {H : mu_H} {Φ : mu_R → Prop} (h : rgd H) (ht : rtp H T n) (hp : mu_i H 169 6 = nI p) (hs : s < 27) (hn : p + (sgt s).length ≤ n) : ∀ m k, k + m = (sgt s).length → mu_W (mu_D (d + 4)) mu_m51 (324, [(2, .inl (mtz T p (sgt s) m k)), (1, .inl (nI s)), (0, .inr (.inr (some 169)))], [], H) Φ → mu_W (mu_D (d + 4)) mu_m51 (271, [(3, .inl (nI k)), (2, .inl 1), (1, .inl (nI s)), (0, .inr (.inr (some 169)))], [], H) Φ
  | 0, k, hm, hk => by
    have hkl : ∀ j, 170 ≤ j → j ≤ 199 → j < mu_z H := fun j _ _ => by have := h.1; omega
    have hs1 : mu_is H (some 171) (mu_k H 171) := ⟨rfl, hkl 171 (by decide) (by decide), rfl⟩
    have hs1b : mu_is H (mu_r H 169 4) (mu_k H (mu_p (mu_r H 169 4))) := by rw [h.2.2.2.1.1]; exact hs1
    have hs2 : 103 ≤ mu_k H (mu_p (mu_r H 169 4)) ∧ mu_k H (mu_p (mu_r H 169 4)) ≤ 110 ∧ mu_k H (mu_p (mu_r H 169 4)) ≠ 108 := by rw [h.2.2.2.1.1, show mu_k H (mu_p (some 171)) = 103 from h.2.2.2.1.2.1]; decide
    have hs3 : 100 ≤ mu_k H (mu_p (mu_r H 169 4)) := by rw [h.2.2.2.1.1, show mu_k H (mu_p (some 171)) = 103 from h.2.2.2.1.2.1]; decide
    have hs4 : vp_in (nI s) (mu_n H (mu_p (mu_r H 169 4))) := by rw [h.2.2.2.1.1, show mu_n H (mu_p (some 171)) = 27 from h.2.2.2.1.2.2.1]; exact vp_in_nI hs (by decide)
    have hss : mu_r H 171 (nI s).toNatClampNeg = some (1000000 + (1 + s)) := by rw [nI_clamp (show s < 2 ^ 31 by omega), h.2.2.2.1.2.2.2 s hs, show 1000001 + s = 1000000 + (1 + s) by omega]
    obtain ⟨sl1, sl2⟩ := sgt_len s hs
    refine mw_go mu_g51 (k := 5) (f1 := (278, [(3, .inl (nI k)), (2, .inl (1 : Int32)), (1, .inl (nI s)), (0, .inr (.inr (some 169)))], [.inr (.inr (mu_r H (mu_p (mu_r H 169 4)) (nI s).toNatClampNeg)), .inl (nI k)], H)) (C := [mu_is H (some 169) 1, mu_is H (mu_r H 169 4) (mu_k H (mu_p (mu_r H 169 4))), 103 ≤ mu_k H (mu_p (mu_r H 169 4)) ∧ mu_k H (mu_p (mu_r H 169 4)) ≤ 110 ∧ mu_k H (mu_p (mu_r H 169 4)) ≠ 108, vp_in (nI s) (mu_n H (mu_p (mu_r H 169 4)))]) rfl (show (mu_is H (some 169) 1) ∧ (mu_is H (mu_r H 169 4) (mu_k H (mu_p (mu_r H 169 4)))) ∧ (103 ≤ mu_k H (mu_p (mu_r H 169 4)) ∧ mu_k H (mu_p (mu_r H 169 4)) ≤ 110 ∧ mu_k H (mu_p (mu_r H 169 4)) ≠ 108) ∧ (vp_in (nI s) (mu_n H (mu_p (mu_r H 169 4)))) from ⟨h.is, hs1b, hs2, hs4⟩) ?_
    refine mw_fr (f' := (278, [(3, .inl (nI k)), (2, .inl (1 : Int32)), (1, .inl (nI s)), (0, .inr (.inr (some 169)))], [.inr (.inr (mu_r H 171 (nI s).toNatClampNeg)), .inl (nI k)], H)) (by first | (rw [h.2.2.2.1.1]; done) | (rw [h.2.2.2.1.1]; rfl)) ?_
    refine mw_fr (f' := (278, [(3, .inl (nI k)), (2, .inl (1 : Int32)), (1, .inl (nI s)), (0, .inr (.inr (some 169)))], [.inr (.inr (some (1000000 + (1 + s)))), .inl (nI k)], H)) (by first | (rw [hss]; done) | (rw [hss]; rfl)) ?_
    refine mw_cIe (fun _ => rfl) (show mu_str (some (1000000 + (1 + s))) from ⟨rfl, Nat.le_add_right _ _, by show 1000000 + (1 + s) < 1000000 + 79; omega⟩) (rf_slen hs) ?_
    refine mw_if (P := (nI k) < (nI (sgt s).length)) (a := 284) (b := 324) (fun _ => rfl) trivial (fun h1 => absurd h1 (nI_nlt (by omega) (by omega))) (fun h1 => ?_)
    · -- 324
      exact mw_sub (L' := [(2, .inl 1), (1, .inl (nI s)), (0, .inr (.inr (some 169)))]) (by simp) hk
  | m + 1, k, hm, hk => by
    have hkl : ∀ j, 170 ≤ j → j ≤ 199 → j < mu_z H := fun j _ _ => by have := h.1; omega
    have hs1 : mu_is H (some 171) (mu_k H 171) := ⟨rfl, hkl 171 (by decide) (by decide), rfl⟩
    have hs1b : mu_is H (mu_r H 169 4) (mu_k H (mu_p (mu_r H 169 4))) := by rw [h.2.2.2.1.1]; exact hs1
    have hs2 : 103 ≤ mu_k H (mu_p (mu_r H 169 4)) ∧ mu_k H (mu_p (mu_r H 169 4)) ≤ 110 ∧ mu_k H (mu_p (mu_r H 169 4)) ≠ 108 := by rw [h.2.2.2.1.1, show mu_k H (mu_p (some 171)) = 103 from h.2.2.2.1.2.1]; decide
    have hs3 : 100 ≤ mu_k H (mu_p (mu_r H 169 4)) := by rw [h.2.2.2.1.1, show mu_k H (mu_p (some 171)) = 103 from h.2.2.2.1.2.1]; decide
    have hs4 : vp_in (nI s) (mu_n H (mu_p (mu_r H 169 4))) := by rw [h.2.2.2.1.1, show mu_n H (mu_p (some 171)) = 27 from h.2.2.2.1.2.2.1]; exact vp_in_nI hs (by decide)
    have hss : mu_r H 171 (nI s).toNatClampNeg = some (1000000 + (1 + s)) := by rw [nI_clamp (show s < 2 ^ 31 by omega), h.2.2.2.1.2.2.2 s hs, show 1000001 + s = 1000000 + (1 + s) by omega]
    obtain ⟨sl1, sl2⟩ := sgt_len s hs
    refine mw_go mu_g51 (k := 5) (f1 := (278, [(3, .inl (nI k)), (2, .inl (1 : Int32)), (1, .inl (nI s)), (0, .inr (.inr (some 169)))], [.inr (.inr (mu_r H (mu_p (mu_r H 169 4)) (nI s).toNatClampNeg)), .inl (nI k)], H)) (C := [mu_is H (some 169) 1, mu_is H (mu_r H 169 4) (mu_k H (mu_p (mu_r H 169 4))), 103 ≤ mu_k H (mu_p (mu_r H 169 4)) ∧ mu_k H (mu_p (mu_r H 169 4)) ≤ 110 ∧ mu_k H (mu_p (mu_r H 169 4)) ≠ 108, vp_in (nI s) (mu_n H (mu_p (mu_r H 169 4)))]) rfl (show (mu_is H (some 169) 1) ∧ (mu_is H (mu_r H 169 4) (mu_k H (mu_p (mu_r H 169 4)))) ∧ (103 ≤ mu_k H (mu_p (mu_r H 169 4)) ∧ mu_k H (mu_p (mu_r H 169 4)) ≤ 110 ∧ mu_k H (mu_p (mu_r H 169 4)) ≠ 108) ∧ (vp_in (nI s) (mu_n H (mu_p (mu_r H 169 4)))) from ⟨h.is, hs1b, hs2, hs4⟩) ?_
    refine mw_fr (f' := (278, [(3, .inl (nI k)), (2, .inl (1 : Int32)), (1, .inl (nI s)), (0, .inr (.inr (some 169)))], [.inr (.inr (mu_r H 171 (nI s).toNatClampNeg)), .inl (nI k)], H)) (by first | (rw [h.2.2.2.1.1]; done) | (rw [h.2.2.2.1.1]; rfl)) ?_
    refine mw_fr (f' := (278, [(3, .inl (nI k)), (2, .inl (1 : Int32)), (1, .inl (nI s)), (0, .inr (.inr (some 169)))], [.inr (.inr (some (1000000 + (1 + s)))), .inl (nI k)], H)) (by first | (rw [hss]; done) | (rw [hss]; rfl)) ?_
    refine mw_cIe (fun _ => rfl) (show mu_str (some (1000000 + (1 + s))) from ⟨rfl, Nat.le_add_right _ _, by show 1000000 + (1 + s) < 1000000 + 79; omega⟩) (rf_slen hs) ?_
    refine mw_if (P := (nI k) < (nI (sgt s).length)) (a := 284) (b := 324) (fun _ => rfl) trivial (fun h1 => ?_) (fun h1 => absurd (nI_lt (by omega) (by omega)) h1)
    · -- 284
      refine mw_go mu_g51 (k := 1) (f1 := (285, [(3, .inl (nI k)), (2, .inl (1 : Int32)), (1, .inl (nI s)), (0, .inr (.inr (some 169)))], [.inl (1 : Int32)], H)) (C := []) rfl trivial ?_
      refine mw_if (P := (1 : Int32) = 0) (a := 324) (b := 288) (fun _ => rfl) trivial (fun h2 => absurd h2 (by decide)) (fun h2 => ?_)
      · -- 288
        have hT : mu_i H 170 (nI (p + k)).toNatClampNeg = T (p + k) := by rw [nI_clamp (show p + k < 2 ^ 31 by have := ht.2.1; omega)]; exact ht.2.2 (p + k) (by omega)
        refine mw_go mu_g51 (k := 12) (f1 := (306, [(3, .inl (nI k)), (2, .inl (1 : Int32)), (1, .inl (nI s)), (0, .inr (.inr (some 169)))], [.inl (nI k), .inr (.inr (mu_r H (mu_p (mu_r H 169 4)) (nI s).toNatClampNeg)), .inl (mu_i H (mu_p (mu_r H 169 1)) ((mu_i H 169 6) + (nI k)).toNatClampNeg)], H)) (C := [mu_is H (some 169) 1, mu_is H (some 169) 1, mu_isr H (mu_r H 169 1) 101, vp_in ((mu_i H 169 6) + (nI k)) (mu_n H (mu_p (mu_r H 169 1))), mu_is H (some 169) 1, mu_is H (mu_r H 169 4) (mu_k H (mu_p (mu_r H 169 4))), 103 ≤ mu_k H (mu_p (mu_r H 169 4)) ∧ mu_k H (mu_p (mu_r H 169 4)) ≤ 110 ∧ mu_k H (mu_p (mu_r H 169 4)) ≠ 108, vp_in (nI s) (mu_n H (mu_p (mu_r H 169 4)))]) rfl (show (mu_is H (some 169) 1) ∧ (mu_is H (some 169) 1) ∧ (mu_isr H (mu_r H 169 1) 101) ∧ (vp_in ((mu_i H 169 6) + (nI k)) (mu_n H (mu_p (mu_r H 169 1)))) ∧ (mu_is H (some 169) 1) ∧ (mu_is H (mu_r H 169 4) (mu_k H (mu_p (mu_r H 169 4)))) ∧ (103 ≤ mu_k H (mu_p (mu_r H 169 4)) ∧ mu_k H (mu_p (mu_r H 169 4)) ≤ 110 ∧ mu_k H (mu_p (mu_r H 169 4)) ≠ 108) ∧ (vp_in (nI s) (mu_n H (mu_p (mu_r H 169 4)))) from ⟨h.is, h.is, h.tp, (by rw [hp, nI_add, h.2.2.1.1]; exact vp_in_nI (show p + k < mu_n H 170 by rw [h.2.2.1.2.2]; have := ht.2.1; omega) (show mu_n H 170 < _ by rw [h.2.2.1.2.2]; decide)), h.is, hs1b, hs2, hs4⟩) ?_
        refine mw_fr (f' := (306, [(3, .inl (nI k)), (2, .inl (1 : Int32)), (1, .inl (nI s)), (0, .inr (.inr (some 169)))], [.inl (nI k), .inr (.inr (mu_r H 171 (nI s).toNatClampNeg)), .inl (mu_i H 170 ((nI p) + (nI k)).toNatClampNeg)], H)) (by first | (rw [h.2.2.1.1, hp, h.2.2.2.1.1]; done) | (rw [h.2.2.1.1, hp, h.2.2.2.1.1]; rfl)) ?_
        refine mw_fr (f' := (306, [(3, .inl (nI k)), (2, .inl (1 : Int32)), (1, .inl (nI s)), (0, .inr (.inr (some 169)))], [.inl (nI k), .inr (.inr (some (1000000 + (1 + s)))), .inl (T (p + k))], H)) (by first | (rw [nI_add, hss, hT]; done) | (rw [nI_add, hss, hT]; rfl)) ?_
        refine mw_cIe (fun _ => rfl) (show mu_str (some (1000000 + (1 + s))) from ⟨rfl, Nat.le_add_right _ _, by show 1000000 + (1 + s) < 1000000 + 79; omega⟩) (rf_schr hs (by omega)) ?_
        refine mw_if (P := (T (p + k)) = ((sgt s).getD k 0)) (a := 312) (b := 316) (fun _ => rfl) trivial (fun h3 => ?_) (fun h3 => ?_)
        · -- 312
          refine mw_go mu_g51 (k := 5) (f1 := (271, [(3, .inl ((nI k) + 1)), (2, .inl (1 : Int32)), (1, .inl (nI s)), (0, .inr (.inr (some 169)))], [], H)) (C := []) rfl trivial ?_
          rw [mtz, if_pos h3] at hk
          refine mw_fr (f' := (271, [(3, .inl (nI (k + 1))), (2, .inl (1 : Int32)), (1, .inl (nI s)), (0, .inr (.inr (some 169)))], [], H)) (by rw [← nI_succ]) ?_
          exact rf_fit0 h ht hp hs hn m (k + 1) (by omega) hk
        · -- 316
          refine mw_go mu_g51 (k := 4) (f1 := (271, [(3, .inl ((nI k) + 1)), (2, .inl (0 : Int32)), (1, .inl (nI s)), (0, .inr (.inr (some 169)))], [], H)) (C := []) rfl trivial ?_
          rw [mtz, if_neg h3] at hk
          refine mw_fr (f' := (271, [(3, .inl (nI (k + 1))), (2, .inl (0 : Int32)), (1, .inl (nI s)), (0, .inr (.inr (some 169)))], [], H)) (by rw [← nI_succ]) ?_
          exact rf_fitN h ht hp hs hk
theorem rI_10 {s : Nat} : (10 : Int32) + nI s = nI (10 + s) := nI_add 10 s
/-- what a scanned sign leaves -/
def sgh (T : Nat → Int32) (n p : Nat) (H : mu_H) (s : Nat) : mu_H := if s < 27 then mu_si (mu_si H 169 7 (nI (10 + s))) 169 6 (nI (p + (sgt s).length)) else H
theorem rf_sign0 {d n p : Nat} {T : Nat → Int32} {H : mu_H} {Q : mu_H → Prop} (h : rgd H) (ht : rtp H T n) (hp : mu_i H 169 6 = nI p) (hpn : p ≤ n) (h7 : mu_i H 169 7 = 1) : ∀ m s, s + m = 27 → Q (if fsz T n p m s < 27 then mu_si (mu_si H 169 7 (nI (10 + fsz T n p m s))) 169 6 (nI (p + (sgt (fsz T n p m s)).length)) else H) → mu_W (mu_D (d + 4)) mu_m51 (225, [(1, .inl (nI s)), (0, .inr (.inr (some 169)))], [], H) (fun r => ∃ H1, r = (.inl none, H1) ∧ Q H1)
  | 0, s, hm, hk => by
    have hkl : ∀ j, 170 ≤ j → j ≤ 199 → j < mu_z H := fun j _ _ => by have := h.1; omega
    have hs1 : mu_is H (some 171) (mu_k H 171) := ⟨rfl, hkl 171 (by decide) (by decide), rfl⟩
    have hs1b : mu_is H (mu_r H 169 4) (mu_k H (mu_p (mu_r H 169 4))) := by rw [h.2.2.2.1.1]; exact hs1
    have hs2 : 103 ≤ mu_k H (mu_p (mu_r H 169 4)) ∧ mu_k H (mu_p (mu_r H 169 4)) ≤ 110 ∧ mu_k H (mu_p (mu_r H 169 4)) ≠ 108 := by rw [h.2.2.2.1.1, show mu_k H (mu_p (some 171)) = 103 from h.2.2.2.1.2.1]; decide
    have hs3 : 100 ≤ mu_k H (mu_p (mu_r H 169 4)) := by rw [h.2.2.2.1.1, show mu_k H (mu_p (some 171)) = 103 from h.2.2.2.1.2.1]; decide
    refine mw_go mu_g51 (k := 4) (f1 := (231, [(1, .inl (nI s)), (0, .inr (.inr (some 169)))], [.inl (Int32.ofNat (mu_n H (mu_p (mu_r H 169 4)))), .inl (nI s)], H)) (C := [mu_is H (some 169) 1, mu_isr H (mu_r H 169 4) (mu_k H (mu_p (mu_r H 169 4))), 100 ≤ mu_k H (mu_p (mu_r H 169 4))]) rfl (show (mu_is H (some 169) 1) ∧ (mu_isr H (mu_r H 169 4) (mu_k H (mu_p (mu_r H 169 4)))) ∧ (100 ≤ mu_k H (mu_p (mu_r H 169 4))) from ⟨h.is, hs1b.r, hs3⟩) ?_
    refine mw_fr (f' := (231, [(1, .inl (nI s)), (0, .inr (.inr (some 169)))], [.inl (Int32.ofNat (mu_n H 171)), .inl (nI s)], H)) (by first | (rw [h.2.2.2.1.1]; done) | (rw [h.2.2.2.1.1]; rfl)) ?_
    have e27 : Int32.ofNat (mu_n H 171) = nI 27 := by rw [h.2.2.2.1.2.2.1]; rfl
    refine mw_fr (f' := (231, [(1, .inl (nI s)), (0, .inr (.inr (some 169)))], [.inl (nI 27), .inl (nI s)], H)) (by rw [e27]) ?_
    refine mw_if (P := (nI s) < (nI 27)) (a := 234) (b := 363) (fun _ => rfl) trivial (fun h1 => absurd h1 (nI_nlt (by omega) (by omega))) (fun h1 => ?_)
    · -- 363
      exact mw_of (fun _ => mu_ret rfl trivial ⟨_, rfl, by rw [fsz] at hk; rw [if_neg (by omega)] at hk; exact hk⟩)
  | m + 1, s, hm, hk => by
    have hs : s < 27 := by omega
    have hkl : ∀ j, 170 ≤ j → j ≤ 199 → j < mu_z H := fun j _ _ => by have := h.1; omega
    have hs1 : mu_is H (some 171) (mu_k H 171) := ⟨rfl, hkl 171 (by decide) (by decide), rfl⟩
    have hs1b : mu_is H (mu_r H 169 4) (mu_k H (mu_p (mu_r H 169 4))) := by rw [h.2.2.2.1.1]; exact hs1
    have hs2 : 103 ≤ mu_k H (mu_p (mu_r H 169 4)) ∧ mu_k H (mu_p (mu_r H 169 4)) ≤ 110 ∧ mu_k H (mu_p (mu_r H 169 4)) ≠ 108 := by rw [h.2.2.2.1.1, show mu_k H (mu_p (some 171)) = 103 from h.2.2.2.1.2.1]; decide
    have hs3 : 100 ≤ mu_k H (mu_p (mu_r H 169 4)) := by rw [h.2.2.2.1.1, show mu_k H (mu_p (some 171)) = 103 from h.2.2.2.1.2.1]; decide
    have hs4 : vp_in (nI s) (mu_n H (mu_p (mu_r H 169 4))) := by rw [h.2.2.2.1.1, show mu_n H (mu_p (some 171)) = 27 from h.2.2.2.1.2.2.1]; exact vp_in_nI hs (by decide)
    have hss : mu_r H 171 (nI s).toNatClampNeg = some (1000000 + (1 + s)) := by rw [nI_clamp (show s < 2 ^ 31 by omega), h.2.2.2.1.2.2.2 s hs, show 1000001 + s = 1000000 + (1 + s) by omega]
    obtain ⟨sl1, sl2⟩ := sgt_len s hs
    refine mw_go mu_g51 (k := 4) (f1 := (231, [(1, .inl (nI s)), (0, .inr (.inr (some 169)))], [.inl (Int32.ofNat (mu_n H (mu_p (mu_r H 169 4)))), .inl (nI s)], H)) (C := [mu_is H (some 169) 1, mu_isr H (mu_r H 169 4) (mu_k H (mu_p (mu_r H 169 4))), 100 ≤ mu_k H (mu_p (mu_r H 169 4))]) rfl (show (mu_is H (some 169) 1) ∧ (mu_isr H (mu_r H 169 4) (mu_k H (mu_p (mu_r H 169 4)))) ∧ (100 ≤ mu_k H (mu_p (mu_r H 169 4))) from ⟨h.is, hs1b.r, hs3⟩) ?_
    refine mw_fr (f' := (231, [(1, .inl (nI s)), (0, .inr (.inr (some 169)))], [.inl (Int32.ofNat (mu_n H 171)), .inl (nI s)], H)) (by first | (rw [h.2.2.2.1.1]; done) | (rw [h.2.2.2.1.1]; rfl)) ?_
    have e27 : Int32.ofNat (mu_n H 171) = nI 27 := by rw [h.2.2.2.1.2.2.1]; rfl
    refine mw_fr (f' := (231, [(1, .inl (nI s)), (0, .inr (.inr (some 169)))], [.inl (nI 27), .inl (nI s)], H)) (by rw [e27]) ?_
    refine mw_if (P := (nI s) < (nI 27)) (a := 234) (b := 363) (fun _ => rfl) trivial (fun h1 => ?_) (fun h1 => absurd (nI_lt (by omega) (by decide)) h1)
    · -- 234
      refine mw_go mu_g51 (k := 3) (f1 := (239, [(1, .inl (nI s)), (0, .inr (.inr (some 169)))], [.inl (1 : Int32), .inl (mu_i H 169 7)], H)) (C := [mu_is H (some 169) 1]) rfl (show mu_is H (some 169) 1 from h.is) ?_
      refine mw_fr (f' := (239, [(1, .inl (nI s)), (0, .inr (.inr (some 169)))], [.inl (1 : Int32), .inl (1 : Int32)], H)) (by first | (rw [h7]; done) | (rw [h7]; rfl)) ?_
      refine mw_if (P := (1 : Int32) = (1 : Int32)) (a := 242) (b := 363) (fun _ => rfl) trivial (fun h2 => ?_) (fun h2 => absurd rfl h2)
      · -- 242
        refine mw_go mu_g51 (k := 6) (f1 := (252, [(1, .inl (nI s)), (0, .inr (.inr (some 169)))], [.inr (.inr (mu_r H (mu_p (mu_r H 169 4)) (nI s).toNatClampNeg)), .inl (mu_i H 169 6)], H)) (C := [mu_is H (some 169) 1, mu_is H (some 169) 1, mu_is H (mu_r H 169 4) (mu_k H (mu_p (mu_r H 169 4))), 103 ≤ mu_k H (mu_p (mu_r H 169 4)) ∧ mu_k H (mu_p (mu_r H 169 4)) ≤ 110 ∧ mu_k H (mu_p (mu_r H 169 4)) ≠ 108, vp_in (nI s) (mu_n H (mu_p (mu_r H 169 4)))]) rfl (show (mu_is H (some 169) 1) ∧ (mu_is H (some 169) 1) ∧ (mu_is H (mu_r H 169 4) (mu_k H (mu_p (mu_r H 169 4)))) ∧ (103 ≤ mu_k H (mu_p (mu_r H 169 4)) ∧ mu_k H (mu_p (mu_r H 169 4)) ≤ 110 ∧ mu_k H (mu_p (mu_r H 169 4)) ≠ 108) ∧ (vp_in (nI s) (mu_n H (mu_p (mu_r H 169 4)))) from ⟨h.is, h.is, hs1b, hs2, hs4⟩) ?_
        refine mw_fr (f' := (252, [(1, .inl (nI s)), (0, .inr (.inr (some 169)))], [.inr (.inr (mu_r H 171 (nI s).toNatClampNeg)), .inl (nI p)], H)) (by first | (rw [hp, h.2.2.2.1.1]; done) | (rw [hp, h.2.2.2.1.1]; rfl)) ?_
        refine mw_fr (f' := (252, [(1, .inl (nI s)), (0, .inr (.inr (some 169)))], [.inr (.inr (some (1000000 + (1 + s)))), .inl (nI p)], H)) (by first | (rw [hss]; done) | (rw [hss]; rfl)) ?_
        refine mw_cIe (fun _ => rfl) (show mu_str (some (1000000 + (1 + s))) from ⟨rfl, Nat.le_add_right _ _, by show 1000000 + (1 + s) < 1000000 + 79; omega⟩) (rf_slen hs) ?_
        refine mw_go mu_g51 (k := 3) (f1 := (260, [(1, .inl (nI s)), (0, .inr (.inr (some 169)))], [.inl (mu_i H 169 2), .inl ((nI p) + (nI (sgt s).length))], H)) (C := [mu_is H (some 169) 1]) rfl (show mu_is H (some 169) 1 from h.is) ?_
        refine mw_fr (f' := (260, [(1, .inl (nI s)), (0, .inr (.inr (some 169)))], [.inl (nI n), .inl (nI (p + (sgt s).length))], H)) (by first | (rw [nI_add, ht.1]; done) | (rw [nI_add, ht.1]; rfl)) ?_
        refine mw_if (P := (nI n) < (nI (p + (sgt s).length))) (a := 267) (b := 263) (fun _ => rfl) trivial (fun h3 => ?_) (fun h3 => ?_)
        · -- 267
          refine mw_go mu_g51 (k := 4) (f1 := (271, [(3, .inl (0 : Int32)), (2, .inl (0 : Int32)), (1, .inl (nI s)), (0, .inr (.inr (some 169)))], [], H)) (C := []) rfl trivial ?_
          have hnn : ¬ p + (sgt s).length ≤ n := fun z => absurd h3 (nI_nlt z (by have := ht.2.1; omega))
          have hf0 : ftz T n p (sgt s) = 0 := if_neg hnn
          refine mw_sub (L' := [(3, .inl 0), (2, .inl 0), (1, .inl (nI s)), (0, .inr (.inr (some 169)))]) (by simp) (rf_fitN (k := 0) h ht hp hs ?_)
          refine mw_go mu_g51 (k := 1) (f1 := (325, [(2, .inl (0 : Int32)), (1, .inl (nI s)), (0, .inr (.inr (some 169)))], [.inl (0 : Int32)], H)) (C := []) rfl trivial ?_
          refine mw_if (P := (0 : Int32) = 0) (a := 328) (b := 331) (fun _ => rfl) trivial (fun h4 => ?_) (fun h4 => absurd rfl h4)
          · -- 328
            refine mw_go mu_g51 (k := 3) (f1 := (225, [(1, .inl ((nI s) + 1)), (2, .inl (0 : Int32)), (0, .inr (.inr (some 169)))], [], H)) (C := []) rfl trivial ?_
            refine mw_fr (f' := (225, [(1, .inl (nI (s + 1))), (2, .inl (0 : Int32)), (0, .inr (.inr (some 169)))], [], H)) (by rw [← nI_succ]) ?_
            refine mw_sub (L' := [(1, .inl (nI (s + 1))), (0, .inr (.inr (some 169)))]) (by simp) ?_
            rw [fsz, if_pos hf0] at hk
            exact rf_sign0 h ht hp hpn h7 m (s + 1) (by omega) hk
        · -- 263
          refine mw_go mu_g51 (k := 5) (f1 := (271, [(3, .inl (0 : Int32)), (2, .inl (1 : Int32)), (1, .inl (nI s)), (0, .inr (.inr (some 169)))], [], H)) (C := []) rfl trivial ?_
          have hnn : p + (sgt s).length ≤ n := by
            have h3' := h3
            by_cases z : p + (sgt s).length ≤ n
            · exact z
            · exact absurd (nI_lt (by omega) (by have := ht.2.1; omega)) h3
          have hft : ftz T n p (sgt s) = mtz T p (sgt s) (sgt s).length 0 := if_pos hnn
          refine mw_sub (L' := [(3, .inl 0), (2, .inl 1), (1, .inl (nI s)), (0, .inr (.inr (some 169)))]) (by simp) (rf_fit0 h ht hp hs hnn (sgt s).length 0 (by omega) ?_)
          rw [← hft]
          have hf01 : ftz T n p (sgt s) = 0 ∨ ftz T n p (sgt s) = 1 := by rw [hft]; exact mtz_01 _ _
          refine mw_go mu_g51 (k := 1) (f1 := (325, [(2, .inl (ftz T n p (sgt s))), (1, .inl (nI s)), (0, .inr (.inr (some 169)))], [.inl (ftz T n p (sgt s))], H)) (C := []) rfl trivial ?_
          refine mw_if (P := (ftz T n p (sgt s)) = 0) (a := 328) (b := 331) (fun _ => rfl) trivial (fun h4 => ?_) (fun h4 => ?_)
          · -- 328
            refine mw_go mu_g51 (k := 3) (f1 := (225, [(1, .inl ((nI s) + 1)), (2, .inl (ftz T n p (sgt s))), (0, .inr (.inr (some 169)))], [], H)) (C := []) rfl trivial ?_
            refine mw_fr (f' := (225, [(1, .inl (nI (s + 1))), (2, .inl (ftz T n p (sgt s))), (0, .inr (.inr (some 169)))], [], H)) (by rw [← nI_succ]) ?_
            refine mw_sub (L' := [(1, .inl (nI (s + 1))), (0, .inr (.inr (some 169)))]) (by simp) ?_
            rw [fsz, if_pos h4] at hk
            exact rf_sign0 h ht hp hpn h7 m (s + 1) (by omega) hk
          · -- 331
            rw [fsz, if_neg h4, if_pos hs] at hk
            refine mw_go mu_g51 (k := 12) (f1 := (350, [(2, .inl (ftz T n p (sgt s))), (1, .inl (nI s)), (0, .inr (.inr (some 169)))], [.inr (.inr (mu_r H (mu_p (mu_r H 169 4)) (nI s).toNatClampNeg)), .inl (mu_i H 169 6), .inr (.inr (some 169))], (mu_si H 169 7 ((10 : Int32) + (nI s))))) (C := [mu_is H (some 169) 1, mu_is H (some 169) 1, mu_is H (some 169) 1, mu_is H (mu_r H 169 4) (mu_k H (mu_p (mu_r H 169 4))), 103 ≤ mu_k (mu_si H 169 7 ((10 : Int32) + (nI s))) (mu_p (mu_r H 169 4)) ∧ mu_k (mu_si H 169 7 ((10 : Int32) + (nI s))) (mu_p (mu_r H 169 4)) ≤ 110 ∧ mu_k (mu_si H 169 7 ((10 : Int32) + (nI s))) (mu_p (mu_r H 169 4)) ≠ 108, vp_in (nI s) (mu_n H (mu_p (mu_r H 169 4)))]) rfl (show (mu_is H (some 169) 1) ∧ (mu_is H (some 169) 1) ∧ (mu_is H (some 169) 1) ∧ (mu_is H (mu_r H 169 4) (mu_k H (mu_p (mu_r H 169 4)))) ∧ (103 ≤ mu_k (mu_si H 169 7 ((10 : Int32) + (nI s))) (mu_p (mu_r H 169 4)) ∧ mu_k (mu_si H 169 7 ((10 : Int32) + (nI s))) (mu_p (mu_r H 169 4)) ≤ 110 ∧ mu_k (mu_si H 169 7 ((10 : Int32) + (nI s))) (mu_p (mu_r H 169 4)) ≠ 108) ∧ (vp_in (nI s) (mu_n H (mu_p (mu_r H 169 4)))) from ⟨h.is, h.is, h.is, hs1b, hs2, hs4⟩) ?_
            refine mw_fr (f' := (350, [(2, .inl (ftz T n p (sgt s))), (1, .inl (nI s)), (0, .inr (.inr (some 169)))], [.inr (.inr (mu_r H 171 (nI s).toNatClampNeg)), .inl (nI p), .inr (.inr (some 169))], (mu_si H 169 7 ((10 : Int32) + (nI s))))) (by first | (rw [hp, h.2.2.2.1.1]; done) | (rw [hp, h.2.2.2.1.1]; rfl)) ?_
            refine mw_fr (f' := (350, [(2, .inl (ftz T n p (sgt s))), (1, .inl (nI s)), (0, .inr (.inr (some 169)))], [.inr (.inr (some (1000000 + (1 + s)))), .inl (nI p), .inr (.inr (some 169))], (mu_si H 169 7 ((10 : Int32) + (nI s))))) (by first | (rw [hss]; done) | (rw [hss]; rfl)) ?_
            refine mw_cIe (fun _ => rfl) (show mu_str (some (1000000 + (1 + s))) from ⟨rfl, Nat.le_add_right _ _, by show 1000000 + (1 + s) < 1000000 + 79; omega⟩) (rf_slen hs) ?_
            refine mw_fr (f' := (353, [(2, .inl (ftz T n p (sgt s))), (1, .inl (nI s)), (0, .inr (.inr (some 169)))], [.inl (nI (sgt s).length), .inl (nI p), .inr (.inr (some 169))], (mu_si H 169 7 (nI (10 + s))))) (by first | (rw [rI_10]; done) | (rw [rI_10]; rfl)) ?_
            refine mw_go mu_g51 (k := 4) (f1 := (225, [(1, .inl ((nI s) + 1)), (2, .inl (ftz T n p (sgt s))), (0, .inr (.inr (some 169)))], [], (mu_si (mu_si H 169 7 (nI (10 + s))) 169 6 ((nI p) + (nI (sgt s).length))))) (C := [mu_is H (some 169) 1]) rfl (show mu_is H (some 169) 1 from h.is) ?_
            refine mw_fr (f' := (225, [(1, .inl ((nI s) + 1)), (2, .inl (ftz T n p (sgt s))), (0, .inr (.inr (some 169)))], [], (mu_si (mu_si H 169 7 (nI (10 + s))) 169 6 (nI (p + (sgt s).length))))) (by first | (rw [nI_add]; done) | (rw [nI_add]; rfl)) ?_
            refine mw_fr (f' := (225, [(1, .inl (nI (s + 1))), (2, .inl (ftz T n p (sgt s))), (0, .inr (.inr (some 169)))], [], (mu_si (mu_si H 169 7 (nI (10 + s))) 169 6 (nI (p + (sgt s).length))))) (by rw [← nI_succ]) ?_
            refine mw_sub (L' := [(1, .inl (nI (s + 1))), (0, .inr (.inr (some 169)))]) (by simp) ?_
            refine mw_go mu_g51 (k := 4) (f1 := (231, [(1, .inl (nI (s + 1))), (0, .inr (.inr (some 169)))], [.inl (Int32.ofNat (mu_n H (mu_p (mu_r H 169 4)))), .inl (nI (s + 1))], (mu_si (mu_si H 169 7 (nI (10 + s))) 169 6 (nI (p + (sgt s).length))))) (C := [mu_is H (some 169) 1, mu_isr H (mu_r H 169 4) (mu_k H (mu_p (mu_r H 169 4))), 100 ≤ mu_k (mu_si (mu_si H 169 7 (nI (10 + s))) 169 6 (nI (p + (sgt s).length))) (mu_p (mu_r H 169 4))]) rfl (show (mu_is H (some 169) 1) ∧ (mu_isr H (mu_r H 169 4) (mu_k H (mu_p (mu_r H 169 4)))) ∧ (100 ≤ mu_k (mu_si (mu_si H 169 7 (nI (10 + s))) 169 6 (nI (p + (sgt s).length))) (mu_p (mu_r H 169 4))) from ⟨h.is, hs1b.r, hs3⟩) ?_
            refine mw_fr (f' := (231, [(1, .inl (nI (s + 1))), (0, .inr (.inr (some 169)))], [.inl (Int32.ofNat (mu_n H 171)), .inl (nI (s + 1))], (mu_si (mu_si H 169 7 (nI (10 + s))) 169 6 (nI (p + (sgt s).length))))) (by first | (rw [h.2.2.2.1.1]; done) | (rw [h.2.2.2.1.1]; rfl)) ?_
            refine mw_fr (f' := (231, [(1, .inl (nI (s + 1))), (0, .inr (.inr (some 169)))], [.inl (nI 27), .inl (nI (s + 1))], (mu_si (mu_si H 169 7 (nI (10 + s))) 169 6 (nI (p + (sgt s).length))))) (by rw [e27]) ?_
            refine mw_if (P := (nI (s + 1)) < (nI 27)) (a := 234) (b := 363) (fun _ => rfl) trivial (fun h5 => ?_) (fun h5 => ?_)
            · -- 234
              refine mw_go mu_g51 (k := 3) (f1 := (239, [(1, .inl (nI (s + 1))), (0, .inr (.inr (some 169)))], [.inl (1 : Int32), .inl (nI (10 + s))], (mu_si (mu_si H 169 7 (nI (10 + s))) 169 6 (nI (p + (sgt s).length))))) (C := [mu_is H (some 169) 1]) rfl (show mu_is H (some 169) 1 from h.is) ?_
              refine mw_if (P := (nI (10 + s)) = (1 : Int32)) (a := 242) (b := 363) (fun _ => rfl) trivial (fun h6 => absurd h6 (fun e => absurd (rI_inj (b := 1) (by omega) (by decide) e) (by omega))) (fun h6 => ?_)
              · -- 363
                exact mw_of (fun _ => mu_ret rfl trivial ⟨_, rfl, hk⟩)
            · -- 363
              exact mw_of (fun _ => mu_ret rfl trivial ⟨_, rfl, hk⟩)
