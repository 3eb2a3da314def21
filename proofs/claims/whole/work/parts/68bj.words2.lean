/-! The reference: a word is kept as a String -/
theorem ltz_out {c : Int32} (h : c.toInt < 48 ∨ 122 < c.toInt) : ltz c = 0 ∧ dgz c = 0 := by
  have e48 : (48 : Int32).toInt = 48 := by decide
  have e57 : (57 : Int32).toInt = 57 := by decide
  have e65 : (65 : Int32).toInt = 65 := by decide
  have e90 : (90 : Int32).toInt = 90 := by decide
  have e95 : (95 : Int32).toInt = 95 := by decide
  have e97 : (97 : Int32).toInt = 97 := by decide
  have e122 : (122 : Int32).toInt = 122 := by decide
  have n95 : ¬ c = 95 := fun e => by rw [e] at h; omega
  rcases h with h | h
  · have k97 : c < 97 := by rw [Int32.lt_iff_toInt_lt]; omega
    have k65 : c < 65 := by rw [Int32.lt_iff_toInt_lt]; omega
    have k48 : c < 48 := by rw [Int32.lt_iff_toInt_lt]; omega
    exact ⟨by simp only [ltz, k97, k65, n95, if_true, if_false], if_pos k48⟩
  · have k97 : ¬ c < 97 := by rw [Int32.lt_iff_toInt_lt]; omega
    have k65 : ¬ c < 65 := by rw [Int32.lt_iff_toInt_lt]; omega
    have k48 : ¬ c < 48 := by rw [Int32.lt_iff_toInt_lt]; omega
    have k122 : 122 < c := by rw [Int32.lt_iff_toInt_lt]; omega
    have k90 : 90 < c := by rw [Int32.lt_iff_toInt_lt]; omega
    have k57 : 57 < c := by rw [Int32.lt_iff_toInt_lt]; omega
    exact ⟨by simp only [ltz, k97, k65, k122, k90, n95, if_true, if_false], (if_neg k48).trans (if_pos k57)⟩
theorem asc_of {c : Int32} (h : ¬ ltz c = 0 ∨ ¬ dgz c = 0) : ∃ m : Nat, m < 128 ∧ c = nI m := by
  by_cases e : c.toInt < 48 ∨ 122 < c.toInt
  · have := ltz_out e
    rcases h with h | h
    · exact absurd this.1 h
    · exact absurd this.2 h
  · refine ⟨c.toInt.toNat, by omega, Int32.toInt_inj.mp ?_⟩
    rw [show (nI c.toInt.toNat).toInt = (c.toInt.toNat : Int) from Int32.toInt_ofNat_of_lt (by omega)]
    omega
theorem asc_ok : ∀ m, m < 128 → ((nI m).toUInt32 % 65536).toInt32 = nI m ∧ (nI m).toInt8.toInt32 = nI m ∧ ¬ 255 < nI m ∧ fits .byte (.int (nI m)) = true := by decide +kernel
/-- the letters from p to k -/
def slc (T : Nat → Int32) (p k : Nat) : List Int32 := (List.range (k - p)).map (fun i => T (p + i))
theorem slc_len {T : Nat → Int32} {p k : Nat} : (slc T p k).length = k - p := by unfold slc; rw [List.length_map, List.length_range]
theorem slc_nil {T : Nat → Int32} {p : Nat} : slc T p p = [] := by unfold slc; rw [Nat.sub_self]; rfl
theorem slc_succ {T : Nat → Int32} {p k : Nat} (h : p ≤ k) : slc T p (k + 1) = slc T p k ++ [T k] := by
  unfold slc
  rw [show k + 1 - p = (k - p) + 1 by omega, List.range_succ, List.map_append]
  show _ ++ [T (p + (k - p))] = _
  rw [show p + (k - p) = k by omega]
/-- while a word's letters are put together -/
def blp (T : Nat → Int32) (n p e k q : Nat) (H0 H : mu_H) : Prop := ∃ a c s, rgd H ∧ rtp H T n ∧ mu_i H 169 6 = nI e ∧ bld H q a (slc T p k) ∧ mu_z H0 ≤ q ∧ mu_z H0 ≤ a ∧ rfr [] [] (fun _ => False) (1 + c) (4 + s) H0 H ∧ 16 * c ≤ mu_n H a ∧ s ≤ 2 * mu_n H a ∧ mu_n H a ≤ 2 * (k - p) + 16
theorem blp.app {T : Nat → Int32} {n p e k q : Nat} {H0 H H1 : mu_H} (hp : p ≤ k) (h : blp T n p e k q H0 H) (g0 : 200 < mu_z H0) (hz : mu_z H ≤ 1000000) (hq : ∀ a, bld H q a (slc T p k) → ∃ a1, bld H1 q a1 (slc T p k ++ [T k]) ∧ ((a1 = a ∧ (slc T p k).length < mu_n H a ∧ mu_n H1 a = mu_n H a ∧ kep (fun p => p = q ∨ p = a) 0 0 H H1) ∨ (a1 = mu_z H ∧ (slc T p k).length = mu_n H a ∧ mu_n H1 a1 = 2 * mu_n H a + 2 ∧ kep (fun p => p = q ∨ p = a) 1 (2 * mu_n H a + 2) H H1))) : blp T n p e (k + 1) q H0 H1 := by
  obtain ⟨a, c, s, h1, h2, h3, h4, h5, h6, h7, h8, h9, h10⟩ := h
  obtain ⟨a1, b1, b2⟩ := hq a h4
  rw [slc_len] at b2
  have hqz : q < mu_z H := h4.1
  have haz : a < mu_z H := h4.2.1
  have h16 : 16 ≤ mu_n H a := h4.2.2.2.2.2.2.2.2.2.2
  have n169 : ¬ (fun x => x = q ∨ x = a) 169 := fun z => by rcases z with z | z <;> omega
  have hW : ∀ x, x < mu_z H0 ∨ 1000000 ≤ x → False ∨ (x = q ∨ x = a) → False := fun x hx z => by
    rcases z with z | z | z
    · exact z
    · omega
    · omega
  have hg : ∀ x, (fun x => x = q ∨ x = a) x → x ∉ [170, 171, 172, 183, 184, 185, 186, 187, 188, 189, 190, 191, 195, 199] := by
    intro x z hm
    simp only [List.mem_cons, List.not_mem_nil, or_false] at hm
    have z : x = q ∨ x = a := z
    omega
  have hz0 : 169 < mu_z H := Nat.lt_trans (by decide) h1.1
  rw [← slc_succ hp] at b1
  rcases b2 with ⟨rfl, b3, b4, b5⟩ | ⟨rfl, b3, b4, b5⟩
  · have r1 : rfr [] [] (fun x => x = q ∨ x = a1) 0 0 H H1 := rfr.of b5 hz0 n169
    exact ⟨a1, c, s, h1.keep r1 (fun _ z => by cases z) hg, h2.keep h1 r1 (by simp) (fun z => by rcases z with z | z <;> omega), (r1.2.1 6 (by simp)).trans h3, b1, h5, h6, (h7.tr r1 (Fi := []) (Fr := []) (W := fun _ => False) (by simp) (by simp) hW).wk (fun _ z => z) (fun _ z => z) (fun _ _ z => z) (by omega) (by omega), by rw [b4]; exact h8, by rw [b4]; exact h9, by rw [b4]; omega⟩
  · have r1 : rfr [] [] (fun x => x = q ∨ x = a) 1 (2 * mu_n H a + 2) H H1 := rfr.of b5 hz0 n169
    exact ⟨mu_z H, c + 1, s + (2 * mu_n H a + 2), h1.keep r1 (fun _ z => by cases z) hg, h2.keep h1 r1 (by simp) (fun z => by rcases z with z | z <;> omega), (r1.2.1 6 (by simp)).trans h3, b1, h5, h7.1.1, (h7.tr r1 (Fi := []) (Fr := []) (W := fun _ => False) (by simp) (by simp) hW).wk (fun _ z => z) (fun _ z => z) (fun _ _ z => z) (by omega) (by omega), by rw [b4]; omega, by rw [b4]; omega, by rw [b4]; omega⟩
theorem rf_bld0 {d n p e q : Nat} {T : Nat → Int32} {H0 : mu_H} {Φ : mu_R → Prop} (g0 : 200 < mu_z H0) (hz : mu_z H0 + (e - p) + 10 ≤ 1000000) (he : e ≤ n) (hw : ∀ j, p ≤ j → j < e → ∃ x : Nat, x < 128 ∧ T j = nI x) : ∀ m k H, p ≤ k → k + m = e → blp T n p e k q H0 H → (∀ H1, blp T n p e e q H0 H1 → mu_W (mu_D (d + 6)) mu_m51 (119, [(1, .inr (.inr (some q))), (0, .inr (.inr (some 169)))], [], H1) Φ) → mu_W (mu_D (d + 6)) mu_m51 (93, [(2, .inl (nI k)), (1, .inr (.inr (some q))), (0, .inr (.inr (some 169)))], [], H) Φ
  | 0, k, H, hkp, hm, hI, hk => by
    obtain ⟨a, c, s, h, ht, h3, h4, h5, h6, h7, h8, h9, h10⟩ := (show blp T n p e k q H0 H from hI)
    have hzz : mu_z H ≤ mu_z H0 + (1 + c) := h7.1.2.2.1.1
    have ht2 := ht.2.1
    refine mw_go mu_g51 (k := 3) (f1 := (98, [(2, .inl (nI k)), (1, .inr (.inr (some q))), (0, .inr (.inr (some 169)))], [.inl (mu_i H 169 6), .inl (nI k)], H)) (C := [mu_is H (some 169) 1]) rfl (show mu_is H (some 169) 1 from h.is) ?_
    refine mw_fr (f' := (98, [(2, .inl (nI k)), (1, .inr (.inr (some q))), (0, .inr (.inr (some 169)))], [.inl (nI e), .inl (nI k)], H)) (by first | (rw [h3]; done) | (rw [h3]; rfl)) ?_
    refine mw_if (P := (nI k) < (nI e)) (a := 101) (b := 119) (fun _ => rfl) trivial (fun h1 => absurd h1 (nI_nlt (by omega) (by omega))) (fun h1 => ?_)
    · -- 119
      refine mw_sub (L' := [(1, .inr (.inr (some q))), (0, .inr (.inr (some 169)))]) (by simp) (hk H ?_)
      rw [show k = e by omega] at hI
      exact hI
  | m + 1, k, H, hkp, hm, hI, hk => by
    obtain ⟨a, c, s, h, ht, h3, h4, h5, h6, h7, h8, h9, h10⟩ := (show blp T n p e k q H0 H from hI)
    have hzz : mu_z H ≤ mu_z H0 + (1 + c) := h7.1.2.2.1.1
    have ht2 := ht.2.1
    refine mw_go mu_g51 (k := 3) (f1 := (98, [(2, .inl (nI k)), (1, .inr (.inr (some q))), (0, .inr (.inr (some 169)))], [.inl (mu_i H 169 6), .inl (nI k)], H)) (C := [mu_is H (some 169) 1]) rfl (show mu_is H (some 169) 1 from h.is) ?_
    refine mw_fr (f' := (98, [(2, .inl (nI k)), (1, .inr (.inr (some q))), (0, .inr (.inr (some 169)))], [.inl (nI e), .inl (nI k)], H)) (by first | (rw [h3]; done) | (rw [h3]; rfl)) ?_
    refine mw_if (P := (nI k) < (nI e)) (a := 101) (b := 119) (fun _ => rfl) trivial (fun h1 => ?_) (fun h1 => absurd (nI_lt (by omega) (by omega)) h1)
    · -- 101
      have hta : mu_i H 170 (nI k).toNatClampNeg = T k := by rw [nI_clamp (show k < 2 ^ 31 by omega)]; exact ht.2.2 k (by omega)
      obtain ⟨x, hx1, hx2⟩ := hw k (by omega) (by omega)
      obtain ⟨y1, y2, y3, y4⟩ := asc_ok x hx1
      have hic : ((T k).toUInt32 % 65536).toInt32 = T k := by rw [hx2]; exact y1
      rw [← hx2] at y2 y3 y4
      refine mw_go mu_g51 (k := 6) (f1 := (109, [(2, .inl (nI k)), (1, .inr (.inr (some q))), (0, .inr (.inr (some 169)))], [.inl (((mu_i H (mu_p (mu_r H 169 1)) (nI k).toNatClampNeg).toUInt32 % 65536).toInt32), .inr (.inr (some q))], H)) (C := [mu_is H (some 169) 1, mu_isr H (mu_r H 169 1) 101, vp_in (nI k) (mu_n H (mu_p (mu_r H 169 1)))]) rfl (show (mu_is H (some 169) 1) ∧ (mu_isr H (mu_r H 169 1) 101) ∧ (vp_in (nI k) (mu_n H (mu_p (mu_r H 169 1)))) from ⟨h.is, h.tp, (by rw [h.2.2.1.1]; exact vp_in_nI (show k < mu_n H 170 by rw [h.2.2.1.2.2]; omega) (show mu_n H 170 < _ by rw [h.2.2.1.2.2]; decide))⟩) ?_
      refine mw_fr (f' := (109, [(2, .inl (nI k)), (1, .inr (.inr (some q))), (0, .inr (.inr (some 169)))], [.inl (((mu_i H 170 (nI k).toNatClampNeg).toUInt32 % 65536).toInt32), .inr (.inr (some q))], H)) (by first | (rw [h.2.2.1.1]; done) | (rw [h.2.2.1.1]; rfl)) ?_
      refine mw_fr (f' := (109, [(2, .inl (nI k)), (1, .inr (.inr (some q))), (0, .inr (.inr (some 169)))], [.inl (T k), .inr (.inr (some q))], H)) (by first | (rw [hta, hic]; done) | (rw [hta, hic]; rfl)) ?_
      refine mw_cA (fun _ => rfl) (show mu_is H (some q) 20 from h4.iq) (bl_append h4 (by omega) (by omega) y2 y3 y4) (fun x1 H1 hq => ?_)
      refine mw_go mu_g51 (k := 3) (f1 := (93, [(2, .inl ((nI k) + 1)), (1, .inr (.inr (some q))), (0, .inr (.inr (some 169)))], [], H1)) (C := []) rfl trivial ?_
      refine mw_fr (f' := (93, [(2, .inl (nI (k + 1))), (1, .inr (.inr (some q))), (0, .inr (.inr (some 169)))], [], H1)) (by rw [← nI_succ]) ?_
      refine mw_sub (L' := [(2, .inl (nI (k + 1))), (1, .inr (.inr (some q))), (0, .inr (.inr (some 169)))]) (by simp) ?_
      refine rf_bld0 g0 hz he hw m (k + 1) H1 (by omega) (by omega) ?_ hk
      refine hI.app hkp g0 (by omega) (fun a' h4' => ?_)
      have ea : a' = a := Option.some.inj (h4'.2.2.2.1.symm.trans h4.2.2.2.1)
      subst ea
      exact hq.2
