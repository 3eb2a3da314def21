/-! Space.begin: what the VALUES are -/
def B2 (U U' : Ud) : Prop := ∃ g, U' = (U.1, U.2.1, f2 U.2.2.1 99 8 ((U.2.2.1 99 8).1, g), U.2.2.2)
section Loop2
variable {H H1 H2 : mu_H} {m d P v : Nat} {C : Nat → Nat} {U U' U2 : Ud} {f : Nat → Nat}
theorem f2_id {α : Type} {g : Nat → Nat → α} {p i : Nat} : f2 g p i (g p i) = g := by
  funext a b
  unfold f2
  by_cases h : a = p ∧ b = i
  · rw [if_pos h, h.1, h.2]
  · rw [if_neg h]
theorem f2_two {α : Type} {g : Nat → Nat → α} {p i : Nat} {x y : α} : f2 (f2 g p i x) p i y = f2 g p i y := by
  funext a b
  unfold f2
  by_cases h : a = p ∧ b = i
  · rw [if_pos h, if_pos h]
  · rw [if_neg h, if_neg h, if_neg h]
theorem B2.refl : B2 U U := ⟨(U.2.2.1 99 8).2, by
  have e : f2 U.2.2.1 99 8 ((U.2.2.1 99 8).1, (U.2.2.1 99 8).2) = U.2.2.1 := f2_id
  rw [e]⟩
theorem B2.step {a n : Nat} {g : Nat → Int32} (h : B2 U U') (E : U2 = upF U' 99 8 a g n) : B2 U U2 := by
  obtain ⟨g0, e⟩ := h
  refine ⟨fun i => if a ≤ i ∧ i < a + n then g (i - a) else g0 i, ?_⟩
  rw [E, e]
  have e8 : f2 U.2.2.1 99 8 ((U.2.2.1 99 8).1, g0) 99 8 = ((U.2.2.1 99 8).1, g0) := if_pos ⟨rfl, rfl⟩
  show (U.1, U.2.1, f2 (f2 U.2.2.1 99 8 ((U.2.2.1 99 8).1, g0)) 99 8 ((f2 U.2.2.1 99 8 ((U.2.2.1 99 8).1, g0) 99 8).1, fun i => if a ≤ i ∧ i < a + n then g (i - a) else (f2 U.2.2.1 99 8 ((U.2.2.1 99 8).1, g0) 99 8).2 i), U.2.2.2) = _
  rw [e8, f2_two]
theorem sp_keep_no (h : um m H) (w : Int32) : mu_TV (mu_D (d + 3)) 269 [.inr (.inr (some 99)), .inl w, .inl (-1)] H (fun H1 => H1 = H) := by
  refine mu_meth (M := mu_m269) rfl rfl ?_
  refine mw_ht (mu_fn_of (show [0, 1, 2].Nodup by decide)) ?_
  refine mw_go mu_g269 (k := 1) (f1 := (1, [(0, .inr (.inr (some 99))), (1, .inl w), (2, .inl (-1))], [.inl (-1)], H)) (C := []) rfl trivial ?_
  refine mw_if (P := (-1 : Int32) < 0) (a := 44) (b := 4) (fun _ => rfl) trivial (fun _ => ?_) (fun z => absurd (by decide) z)
  exact mw_of (fun _ => mu_ret rfl trivial ⟨H, rfl, rfl⟩)
theorem sp_loop2 {Φ : mu_R → Prop} (h : um m H) (e : ud m H = U) (hm0 : U.2.2.2.1 99 0 = some m) (h15 : (U.1 15).1 ≤ 67108864) (hcol : ∀ w, w < (U.1 15).1 → (U.1 15).2 w 2 = -1 ∨ ∃ k, k < P ∧ (U.1 15).2 w 2 = nI k) (hP : P ≤ 14) (hf : ∀ k, k < P → (U.2.2.1 99 5).2 k = nI (f k) ∧ (U.2.2.1 99 7).2 k = nI (sm f 0 k)) (hlen : sm f 0 P ≤ (U.2.2.1 99 8).1) (h8 : (U.2.2.1 99 8).1 ≤ 16777216)
    (hΦ : ∀ Q, um m Q → ur m C H Q → B2 U (ud m Q) → mu_W (mu_D (d + 4)) mu_m268 (245, [(2, .inl (nI (U.1 15).1)), (0, .inr (.inr (some 99))), (1, .inr (.inr (some m)))], [], Q) Φ) :
    mu_W (mu_D (d + 4)) mu_m268 (197, [(2, .inl (nI 0)), (0, .inr (.inr (some 99))), (1, .inr (.inr (some m)))], [], H) Φ := by
  refine mw_down (α := Nat × mu_H) (fun zs => (197, [(2, .inl (nI zs.1)), (0, .inr (.inr (some 99))), (1, .inr (.inr (some m)))], [], zs.2)) (fun zs => (U.1 15).1 - zs.1) (fun zs => zs.1 ≤ (U.1 15).1 ∧ um m zs.2 ∧ ur m C H zs.2 ∧ B2 U (ud m zs.2)) (fun zs hz ih => ?_) (0, H) ⟨Nat.zero_le _, h, ur.refl m C H, by rw [e]; exact B2.refl⟩
  obtain ⟨v, Q⟩ := zs
  obtain ⟨hv, u0, r0, hB⟩ := hz
  have hv : v ≤ (U.1 15).1 := hv
  have u0 : um m Q := u0
  have r0 : ur m C H Q := r0
  have hB : B2 U (ud m Q) := hB
  show mu_W _ _ (197, [(2, .inl (nI v)), (0, .inr (.inr (some 99))), (1, .inr (.inr (some m)))], [], Q) _
  obtain ⟨V, hV⟩ : ∃ V, ud m Q = V := ⟨_, rfl⟩
  rw [hV] at hB
  obtain ⟨g0, hg0⟩ := hB
  have hT : V.1 = U.1 := by rw [hg0]
  have hm0V : V.2.2.2.1 99 0 = some m := by rw [hg0]; exact hm0
  have esz : mu_i Q (m + 31) 2 = nI (U.1 15).1 := by
    have z := (u0.1.1.w ((ra_ok u0.2).1 15 (by decide))).2.2.2.1
    rw [← ak_n (m := m) (j := 15) (by decide)] at z
    rw [← hT, ← hV]
    exact z
  have z0Q : mu_r Q 99 0 = some m := (ud_r (m := m) hV rfl rfl).trans hm0V
  have zt15Q : mu_r Q m 15 = some (m + 31) := (gi_mr u0.1.1 u0.2 (j := 15) (by decide)).trans (congrArg some (by omega))
  refine mw_go mu_g268 (k := 3) (f1 := (202, [(2, .inl (nI v)), (0, .inr (.inr (some 99))), (1, .inr (.inr (some m)))], [.inr (.inr (mu_r Q 99 0)), .inl (nI v)], Q)) (C := [mu_is Q (some 99) 13]) rfl (show mu_is Q (some 99) 13 from (u0.1.1.is rfl)) ?_
  rw [z0Q]
  refine mw_go mu_g268 (k := 1) (f1 := (205, [(2, .inl (nI v)), (0, .inr (.inr (some 99))), (1, .inr (.inr (some m)))], [.inr (.inr (mu_r Q m 15)), .inl (nI v)], Q)) (C := [mu_is Q (some m) 6]) rfl (show mu_is Q (some m) 6 from gi_im u0.1.1 u0.2) ?_
  rw [zt15Q]
  refine mw_go mu_g268 (k := 1) (f1 := (208, [(2, .inl (nI v)), (0, .inr (.inr (some 99))), (1, .inr (.inr (some m)))], [.inl (mu_i Q (m + 31) 2), .inl (nI v)], Q)) (C := [mu_is Q (some (m + 31)) 10]) rfl (show mu_is Q (some (m + 31)) 10 from (u0.1.1.w (md_w15 u0.2)).1) ?_
  rw [esz]
  have stop : ¬ nI v < nI (U.1 15).1 → mu_W (mu_D (d + 4)) mu_m268 (245, [(2, .inl (nI v)), (0, .inr (.inr (some 99))), (1, .inr (.inr (some m)))], [], Q) Φ := fun hx => by
    have hvN : v = (U.1 15).1 := Nat.le_antisymm hv (Nat.le_of_not_lt (fun z => hx ((nI_ltI (by omega) (by omega)).mpr z)))
    subst hvN
    exact hΦ Q u0 r0 (by rw [hV]; exact ⟨g0, hg0⟩)
  refine mw_if (P := nI v < nI (U.1 15).1) (a := 211) (b := 245) (fun _ => rfl) trivial (fun hx => ?_) stop
  have hvN : v < (U.1 15).1 := (nI_ltI (by omega) (by omega)).mp hx
  refine mw_go mu_g268 (k := 3) (f1 := (216, [(2, .inl (nI v)), (0, .inr (.inr (some 99))), (1, .inr (.inr (some m)))], [.inr (.inr (mu_r Q 99 0)), .inr (.inr (some 99))], Q)) (C := [mu_is Q (some 99) 13]) rfl (show mu_is Q (some 99) 13 from (u0.1.1.is rfl)) ?_
  rw [z0Q]
  refine mw_go mu_g268 (k := 1) (f1 := (219, [(2, .inl (nI v)), (0, .inr (.inr (some 99))), (1, .inr (.inr (some m)))], [.inr (.inr (mu_r Q m 15)), .inr (.inr (some 99))], Q)) (C := [mu_is Q (some m) 6]) rfl (show mu_is Q (some m) 6 from gi_im u0.1.1 u0.2) ?_
  rw [zt15Q]
  refine mw_go mu_g268 (k := 2) (f1 := (221, [(2, .inl (nI v)), (0, .inr (.inr (some 99))), (1, .inr (.inr (some m)))], [.inl (0 : Int32), .inl (nI v), .inr (.inr (some (m + 31))), .inr (.inr (some 99))], Q)) (C := []) rfl trivial ?_
  refine mw_cIe (fun _ => rfl) (show mu_is Q (some (m + 31)) 10 from (u0.1.1.w (md_w15 u0.2)).1) (u0.getr (d := d + 3) hV (j := 15) (by decide) rfl (nI v) (c := 0) (by decide)) ?_
  generalize tget (V.1 15) (nI v) 0 = x0
  refine mw_go mu_g268 (k := 2) (f1 := (228, [(2, .inl (nI v)), (0, .inr (.inr (some 99))), (1, .inr (.inr (some m)))], [.inr (.inr (mu_r Q 99 0)), .inl x0, .inr (.inr (some 99))], Q)) (C := [mu_is Q (some 99) 13]) rfl (show mu_is Q (some 99) 13 from (u0.1.1.is rfl)) ?_
  rw [z0Q]
  refine mw_go mu_g268 (k := 1) (f1 := (231, [(2, .inl (nI v)), (0, .inr (.inr (some 99))), (1, .inr (.inr (some m)))], [.inr (.inr (mu_r Q m 15)), .inl x0, .inr (.inr (some 99))], Q)) (C := [mu_is Q (some m) 6]) rfl (show mu_is Q (some m) 6 from gi_im u0.1.1 u0.2) ?_
  rw [zt15Q]
  refine mw_go mu_g268 (k := 2) (f1 := (233, [(2, .inl (nI v)), (0, .inr (.inr (some 99))), (1, .inr (.inr (some m)))], [.inl (2 : Int32), .inl (nI v), .inr (.inr (some (m + 31))), .inl x0, .inr (.inr (some 99))], Q)) (C := []) rfl trivial ?_
  refine mw_cIe (fun _ => rfl) (show mu_is Q (some (m + 31)) 10 from (u0.1.1.w (md_w15 u0.2)).1) (u0.getr (d := d + 3) hV (j := 15) (by decide) rfl (nI v) (c := 2) (by decide)) ?_
  rw [show tget (V.1 15) (nI v) 2 = (U.1 15).2 v 2 from by rw [hT]; exact tget_nI (by omega)]
  have back : ∀ Q1, um m Q1 → ur m C H Q1 → B2 U (ud m Q1) → mu_W (mu_D (d + 4)) mu_m268 (239, [(2, .inl (nI v)), (0, .inr (.inr (some 99))), (1, .inr (.inr (some m)))], [], Q1) Φ := fun Q1 a b c => by
    refine mw_go mu_g268 (k := 2) (f1 := (197, [(2, .inl (nI v + 1)), (0, .inr (.inr (some 99))), (1, .inr (.inr (some m)))], [], Q1)) (C := []) rfl trivial ?_
    rw [nI_1 v]
    exact ih (v + 1, Q1) ⟨hvN, a, b, c⟩ (by show (U.1 15).1 - (v + 1) < (U.1 15).1 - v; omega)
  rcases hcol v hvN with z | ⟨k, hk, z⟩
  · rw [z]
    refine mw_cVe (fun _ => rfl) (show mu_is Q (some 99) 13 from u0.1.1.is rfl) (sp_keep_no (d := d + 1) u0 x0) ?_
    exact back Q u0 r0 (by rw [hV]; exact ⟨g0, hg0⟩)
  · rw [z]
    have hs : sm f 0 k + f k ≤ sm f 0 P := by
      have q := sm_le_add (f := f) (a := 0) (k + 1) (P - (k + 1))
      rw [show k + 1 + (P - (k + 1)) = P by omega] at q
      have q2 : sm f 0 (k + 1) = sm f 0 k + f (0 + k) := rfl
      rw [Nat.zero_add] at q2
      omega
    refine mw_cV (fun _ => rfl) (show mu_is Q (some 99) 13 from u0.1.1.is rfl) (sp_keep (C := C) (d := d + 1) (k := k) (n := f k) (a := sm f 0 k) u0 hV hm0V (by omega) (by rw [hg0]; exact (hf k hk).1) (by rw [hg0]; exact (hf k hk).2) (by rw [hg0]; exact Nat.le_trans hs hlen) (by rw [hg0]; exact h8) x0) (fun Q1 q => ?_)
    obtain ⟨q1, q2, g, q3⟩ := q
    exact back Q1 q1 (r0.trans q2) (B2.step ⟨g0, hg0⟩ q3)
end Loop2
