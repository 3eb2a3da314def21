/-! THE UPPER LAYER AS DATA: its steps -/
def upR (U : Ud) (P j : Nat) (v : Option Nat) : Ud := (U.1, U.2.1, U.2.2.1, f2 U.2.2.2.1 P j v, U.2.2.2.2)
def upN (U : Ud) (P J N z : Nat) : Ud := (U.1, U.2.1, f2 U.2.2.1 P J (N, fun _ => 0), f2 U.2.2.2.1 P J (some z), U.2.2.2.2)
def upL (U : Ud) (p i : Nat) (v : Int64) : Ud := (U.1, U.2.1, U.2.2.1, U.2.2.2.1, f2 U.2.2.2.2.1 p i v, U.2.2.2.2.2)
section UpperSteps
variable {H H1 H2 : mu_H} {m j d : Nat} {C : Nat → Nat} {U : Ud} {S : Nat → Bool}
theorem fl_ok {p : Nat} (h : fl p = true) : ∃ n, gi_a p = some (102, n) := by
  unfold fl at h
  split at h
  · rename_i x hx
    exact ⟨x.2, by rw [hx]; exact congrArg some (Prod.ext (Nat.eq_of_beq_eq_true h) rfl)⟩
  · cases h
theorem ud_keep (hg : gi H) (hp : pko H) (hk' : gk S H H1) (hS : ∀ P, uo P = true → S P = false) : (ud m H1).2 = (ud m H).2 := by
  have e1 : dI H1 = dI H := by
    funext p i
    unfold dI
    by_cases hx : uo p = true
    · rw [if_pos hx, if_pos hx]
      obtain ⟨⟨kd, hkd⟩, -⟩ := uo_k hx
      exact (hk'.obj hkd (hS p hx)).i i
    · rw [if_neg hx, if_neg hx]
  have e2 : dA H1 = dA H := by
    funext p i
    unfold dA
    by_cases hx : uo p = true ∧ gi_o p i = true
    · rw [if_pos hx, if_pos hx]
      obtain ⟨⟨kd, hkd⟩, -⟩ := uo_k hx.1
      have er := (hk'.obj hkd (hS p hx.1)).r i
      have es := hk'.2.2.2.1 p i hx.2 (hS p hx.1)
      unfold gi_len
      show (mu_n H1 (mu_p (mu_r H1 p i)), fun q => mu_i H1 (mu_p (mu_r H1 p i)) q) = (mu_n H (mu_p (mu_r H p i)), fun q => mu_i H (mu_p (mu_r H p i)) q)
      rw [er]
      exact Prod.ext es.2.1 (funext fun q => es.i q)
    · rw [if_neg hx, if_neg hx]
  have e3 : dR H1 = dR H := by
    funext p i
    unfold dR
    by_cases hx : uo p = true
    · rw [if_pos hx, if_pos hx]
      obtain ⟨⟨kd, hkd⟩, -⟩ := uo_k hx
      exact (hk'.obj hkd (hS p hx)).r i
    · rw [if_neg hx, if_neg hx]
      by_cases hx2 : (p, i) ∈ plp ∧ ¬ p = 114
      · rw [if_pos hx2, if_pos hx2]
        obtain ⟨k1, k2⟩ := plp_kind hg hx2.1
        exact (hk'.2.2.2.2.1 p k1 (by rw [k2]; decide)).r i
      · rw [if_neg hx2, if_neg hx2]
  have e4 : dL H1 = dL H := by
    funext p i
    unfold dL
    by_cases hx : fl p = true
    · rw [if_pos hx, if_pos hx]
      obtain ⟨n, hn⟩ := fl_ok hx
      have ha := (hg.a hn).1
      exact (hk'.2.2.2.2.1 p ha.2.1 (by rw [show mu_k H p = 102 from ha.2.2]; decide)).l i
    · rw [if_neg hx, if_neg hx]
  have e5 : dP H1 = dP H := by
    funext p i
    unfold dP
    by_cases hx : (p, i) ∈ plp
    · rw [if_pos hx, if_pos hx]
      obtain ⟨k1, k2⟩ := plp_kind hg hx
      have er : mu_r H1 p i = mu_r H p i := (hk'.2.2.2.2.1 p k1 (by rw [k2]; decide)).r i
      rw [er]
      rcases hp.1 _ hx with z | ⟨z, -⟩
      · rw [show mu_r H p i = none from z]; rfl
      · have z1 : mu_r H p i = some (mu_p (mu_r H p i)) := z.1
        have es := hk'.2.2.2.2.1 _ z.2.1 (by rw [show mu_k H (mu_p (mu_r H p i)) = 102 from z.2.2]; decide)
        rw [z1]
        show some (mu_n H1 (mu_p (mu_r H p i)), fun k => mu_l H1 (mu_p (mu_r H p i)) k) = some (mu_n H (mu_p (mu_r H p i)), fun k => mu_l H (mu_p (mu_r H p i)) k)
        exact congrArg some (Prod.ext es.2.1 (funext fun q => es.l q))
    · rw [if_neg hx, if_neg hx]
  show (dI H1, dA H1, dR H1, dL H1, dP H1) = (dI H, dA H, dR H, dL H, dP H)
  rw [e1, e2, e3, e4, e5]
theorem uS_ra (hm : m = 2 ∨ m = 41) (h : j < 19 ∨ (21 ≤ j ∧ j < 28)) : uS m (ra m j) = true := by
  rcases hm with e | e <;> subst e
  · exact (show ∀ j, j < 28 → (j < 19 ∨ (21 ≤ j ∧ j < 28)) → uS 2 (ra 2 j) = true by decide +kernel) j (by omega) h
  · exact (show ∀ j, j < 28 → (j < 19 ∨ (21 ≤ j ∧ j < 28)) → uS 41 (ra 41 j) = true by decide +kernel) j (by omega) h
/-- a step at one table -/
theorem um.tab (h : um m H) (hj : j < 19 ∨ (21 ≤ j ∧ j < 28)) (hg : gi H1) (hk' : gk (fun p => Nat.beq p (ra m j)) H H1) (hc : gi_cap H1 (ra m j) ≤ max (gi_cap H (ra m j)) (C j)) : um m H1 ∧ ur m C H H1 ∧ ud m H1 = upT (ud m H) (ak m H1) := by
  have hj27 : j < 28 := by omega
  obtain ⟨a, b⟩ := h.1.gk hg hk'
  refine ⟨⟨a, h.2⟩, ⟨b.mono (fun p hp => by rw [Nat.eq_of_beq_eq_true hp]; exact uS_ra h.2 hj), fun i hi => ?_⟩, ?_⟩
  · by_cases e : i = j
    · subst e; exact hc
    · rw [h.cap hi hk' (beq_f ((ra_ok h.2).2 i j hi hj27 e))]
      exact Nat.le_max_left _ _
  · have := ud_keep (m := m) h.1.1 h.1.2.1 hk' (fun P hP => beq_f (fun z => ra_ne h.2 hj27 hP z.symm))
    show (ak m H1, (ud m H1).2) = (ak m H1, (ud m H).2)
    rw [this]
theorem um.getr (h : um m H) (e : ud m H = U) (hj : j < 28) {r : Nat} (hr : r = ra m j) (x : Int32) {c : Nat} (hc : c < 2 ^ 31) : mu_TI (mu_D (d + 1)) 46 [.inr (.inr (some r)), .inl x, .inl (nI c)] H (fun y H1 => y = tget (U.1 j) x c ∧ H1 = H) := by
  rw [hr, ← e, show tget ((ud m H).1 j) x c = rw_get H (ra m j) (wa j) (gi_sz H (ra m j)) x c from (gT_get hj).symm]
  exact gi_get_ok h.1.1 ((ra_ok h.2).1 j hj) x hc
theorem um.setr (h : um m H) (e : ud m H = U) (hj : j < 19 ∨ (21 ≤ j ∧ j < 28)) {r : Nat} (hr : r = ra m j) (row v : Int32) {c : Nat} (hc : c < 2 ^ 31) : mu_TV (mu_D (d + 1)) 116 [.inr (.inr (some r)), .inl row, .inl (nI c), .inl v] H (fun H1 => um m H1 ∧ ur m C H H1 ∧ ud m H1 = upT U (ax j U.1 row c v)) := by
  have hj27 : j < 28 := by omega
  have hw := (ra_ok h.2).1 j hj27
  rw [hr]
  refine (gi_set_ok h.1.1 hw row v hc).imp (fun H1 q => ?_)
  have hk' : gk (fun p => Nat.beq p (ra m j)) H H1 := by rw [q]; exact gk.set h.1.1 hw (Nat.beq_refl _)
  obtain ⟨a, b, f⟩ := h.tab (C := C) hj (by rw [q]; exact (h.1.1.set hw).1) hk' (by
    have : gi_cap H1 (ra m j) = gi_cap H (ra m j) := by
      rw [q]
      unfold gi_cap mu_n
      rw [rw_set_r, (rw_set_eq H (ra m j) (wa j) (gi_sz H (ra m j)) row c v).2.1]
    rw [this]
    exact Nat.le_max_left _ _)
  refine ⟨a, b, ?_⟩
  have e2 : ak m H1 = ax j (ak m H) row c v := by rw [q]; exact gT_set h.1.1 (ra_ok h.2) hj27
  rw [f, e2, e, ← e]
  rfl
theorem um.putr (h : um m H) (e : ud m H = U) (hj : j < 19 ∨ (21 ≤ j ∧ j < 28)) {r : Nat} (hr : r = ra m j) (a1 a2 a3 a4 : Int32) (hC : 2 * (((U.1 j).1 + 1) * wa j) + wa j ≤ C j) (h4 : C j ≤ 8388608) : mu_TI (mu_D (d + 3)) 17 [.inr (.inr (some r)), .inl a1, .inl a2, .inl a3, .inl a4] H (fun x H1 => x = nI (U.1 j).1 ∧ um m H1 ∧ ur m C H H1 ∧ ud m H1 = upT U (ap j U.1 a1 a2 a3 a4)) := by
  have hj27 : j < 28 := by omega
  have hw := (ra_ok h.2).1 j hj27
  have hz : gi_sz H (ra m j) = (U.1 j).1 := by rw [← e]; exact (ak_n (m := m) hj27).symm
  rw [hr]
  refine (gi_put_ok h.1.1 hw (by rw [hz]; omega) a1 a2 a3 a4).imp (fun x H1 q => ?_)
  obtain ⟨q1, q2, q3⟩ := q
  obtain ⟨a, b, f⟩ := h.tab (C := C) hj q2 q3.1 (by
    have h4 := q3.2.2.2.1.1
    rw [q3.2.1] at h4
    rw [hz] at h4
    omega)
  refine ⟨by rw [q1, hz], a, b, ?_⟩
  have e2 : ak m H1 = ap j (ak m H) a1 a2 a3 a4 := gT_put (ra_ok h.2) hj27 q3
  rw [f, e2, e, ← e]
  rfl
theorem um.clearr (h : um m H) (e : ud m H = U) (hj : j < 19 ∨ (21 ≤ j ∧ j < 28)) {r : Nat} (hr : r = ra m j) : mu_TV (mu_D (d + 1)) 37 [.inr (.inr (some r))] H (fun H1 => um m H1 ∧ ur m C H H1 ∧ ud m H1 = upT U (ac j U.1 0)) := by
  have hj27 : j < 28 := by omega
  have hw := (ra_ok h.2).1 j hj27
  rw [hr]
  refine (rw_clear_ok (h.1.1.w hw)).imp (fun H1 q => ?_)
  obtain ⟨a, b, f⟩ := h.tab (C := C) (H1 := mu_si H (ra m j) 2 (nI 0)) hj (h.1.1.size hw (Nat.zero_le _)).1 (gk.si h.1.1 (gi_w_ok hw).2.2.2.1 (Nat.beq_refl _)) (Nat.le_max_left _ _)
  rw [q]
  refine ⟨a, b, ?_⟩
  have e2 : ak m (mu_si H (ra m j) 2 (nI 0)) = ac j (ak m H) 0 := gT_size h.1.1 (ra_ok h.2) hj27 (Nat.zero_le _)
  rw [e2] at f
  rw [← e]
  exact f
theorem um.cutr (h : um m H) (e : ud m H = U) (hj : j < 19 ∨ (21 ≤ j ∧ j < 28)) {r : Nat} (hr : r = ra m j) {k : Nat} (hk' : k ≤ (U.1 j).1) : mu_TV (mu_D (d + 2)) 115 [.inr (.inr (some r)), .inl (nI k)] H (fun H1 => um m H1 ∧ ur m C H H1 ∧ ud m H1 = upT U (ac j U.1 k)) := by
  have hj27 : j < 28 := by omega
  have hw := (ra_ok h.2).1 j hj27
  have hz : gi_sz H (ra m j) = (U.1 j).1 := by rw [← e]; exact (ak_n (m := m) hj27).symm
  rw [hr]
  refine (rw_cut_ok (h.1.1.w hw) (nI k)).imp (fun H1 q => ?_)
  obtain ⟨k', hk2, ek', hk3⟩ := h.1.1.cutn hw (nI k)
  have : k' = k := hk3 k rfl (by omega)
  subst this
  obtain ⟨a, b, f⟩ := h.tab (C := C) (H1 := mu_si H (ra m j) 2 (nI k')) hj (h.1.1.size hw hk2).1 (gk.si h.1.1 (gi_w_ok hw).2.2.2.1 (Nat.beq_refl _)) (Nat.le_max_left _ _)
  have e2 : ak m (mu_si H (ra m j) 2 (nI k')) = ac j (ak m H) k' := gT_size h.1.1 (ra_ok h.2) hj27 hk2
  rw [q, ek']
  rw [e2] at f
  refine ⟨a, b, ?_⟩
  rw [← e]
  exact f
/-- a field of ints gets a new array -/
theorem um.newA (h : um m H) {P J N : Nat} (hP : uo P = true) (ho : gi_o P J = true) (hr : gi_r P J = none) (hN : 2 * gi_len H (P, J) ≤ N) (hN2 : N ≤ 16777216) : um m (mu_sr (mu_nw H 100 N N) P J (some (mu_z H))) ∧ ur m C H (mu_sr (mu_nw H 100 N N) P J (some (mu_z H))) ∧ ud m (mu_sr (mu_nw H 100 N N) P J (some (mu_z H))) = upN (ud m H) P J N (mu_z H) := by
  obtain ⟨z1, z2, z3, z4, z5, z6, z7, z8⟩ := h.1.1.newo (S := fun p => Nat.beq p P) (P := P) (J := J) (N := N) (H1 := mu_sr (mu_nw H 100 N N) P J (some (mu_z H))) ho hr (uo_k hP).2 hN hN2 rfl (Nat.beq_refl _)
  have hl : gi_len (mu_sr (mu_nw H 100 N N) P J (some (mu_z H))) (P, J) = N := by
    show mu_n (mu_sr (mu_nw H 100 N N) P J (some (mu_z H))) (mu_p (mu_r (mu_sr (mu_nw H 100 N N) P J (some (mu_z H))) P J)) = _
    rw [z3]
    exact z4
  generalize mu_sr (mu_nw H 100 N N) P J (some (mu_z H)) = F at z1 z2 z3 z4 z5 z6 z7 z8 hl ⊢
  obtain ⟨a, b, c⟩ := h.obj (C := C) hP z1 z2
  refine ⟨a, b, ?_⟩
  have hz : ∀ p, uo p = true → p < mu_z H := fun p hp => by
    have := h.1.1.1.1
    rcases uo_in hp with e | e | e | e | e | e <;> omega
  have e1 : dI F = dI H := by
    funext p i
    unfold dI
    by_cases hx : uo p = true
    · rw [if_pos hx, if_pos hx, z6 p (hz p hx)]
    · rw [if_neg hx, if_neg hx]
  have e2 : dA F = f2 (dA H) P J (N, fun _ => 0) := by
    funext p i
    unfold f2
    by_cases hpi : p = P ∧ i = J
    · rw [if_pos hpi, hpi.1, hpi.2]
      unfold dA
      rw [if_pos ⟨hP, ho⟩, hl, z3]
      exact Prod.ext rfl (funext fun q => z8 q)
    · rw [if_neg hpi]
      unfold dA
      by_cases hx : uo p = true ∧ gi_o p i = true
      · rw [if_pos hx, if_pos hx]
        have hO := h.1.1.o hx.2
        unfold gi_len
        show (mu_n F (mu_p (mu_r F p i)), fun q => mu_i F (mu_p (mu_r F p i)) q) = (mu_n H (mu_p (mu_r H p i)), fun q => mu_i H (mu_p (mu_r H p i)) q)
        rw [z7 p i (hz p hx.1) hpi]
        exact Prod.ext (z2.2.1 _ hO.2.1).2 (funext fun q => z6 _ hO.2.1 q)
      · rw [if_neg hx, if_neg hx]
  have e3 : dR F = f2 (dR H) P J (some (mu_z H)) := by
    funext p i
    unfold dR f2
    by_cases hpi : p = P ∧ i = J
    · rw [if_pos hpi, hpi.1, hpi.2, if_pos hP]
      exact z3
    · rw [if_neg hpi]
      show (if uo p = true then mu_r F p i else if (p, i) ∈ plp ∧ ¬ p = 114 then mu_r F p i else none) = (if uo p = true then mu_r H p i else if (p, i) ∈ plp ∧ ¬ p = 114 then mu_r H p i else none)
      by_cases hx : uo p = true
      · rw [if_pos hx, if_pos hx]
        exact z7 p i (hz p hx) hpi
      · rw [if_neg hx, if_neg hx]
        by_cases hx2 : (p, i) ∈ plp ∧ ¬ p = 114
        · rw [if_pos hx2, if_pos hx2]
          exact z7 p i (plp_kind h.1.1 hx2.1).1 hpi
        · rw [if_neg hx2, if_neg hx2]
  have e4 : dL F = dL H := by
    funext p i
    unfold dL
    by_cases hx : fl p = true
    · rw [if_pos hx, if_pos hx]
      obtain ⟨n, hn⟩ := fl_ok hx
      have ha := (h.1.1.a hn).1
      exact (z2.2.2.2.2.1 p ha.2.1 (by rw [show mu_k H p = 102 from ha.2.2]; decide)).l i
    · rw [if_neg hx, if_neg hx]
  have e5 : dP F = dP H := by
    funext p i
    unfold dP
    by_cases hx : (p, i) ∈ plp
    · rw [if_pos hx, if_pos hx]
      obtain ⟨k1, k2⟩ := plp_kind h.1.1 hx
      have er : mu_r F p i = mu_r H p i := (z2.2.2.2.2.1 p k1 (by rw [k2]; decide)).r i
      rw [er]
      rcases h.1.2.1.1 _ hx with z | ⟨z, -⟩
      · rw [show mu_r H p i = none from z]; rfl
      · have z1' : mu_r H p i = some (mu_p (mu_r H p i)) := z.1
        have es := z2.2.2.2.2.1 _ z.2.1 (by rw [show mu_k H (mu_p (mu_r H p i)) = 102 from z.2.2]; decide)
        rw [z1']
        show some (mu_n F (mu_p (mu_r H p i)), fun k => mu_l F (mu_p (mu_r H p i)) k) = some (mu_n H (mu_p (mu_r H p i)), fun k => mu_l H (mu_p (mu_r H p i)) k)
        exact congrArg some (Prod.ext es.2.1 (funext fun q => es.l q))
    · rw [if_neg hx, if_neg hx]
  show (ak m F, dI F, dA F, dR F, dL F, dP F) = (ak m H, dI H, f2 (dA H) P J (N, fun _ => 0), f2 (dR H) P J (some (mu_z H)), dL H, dP H)
  rw [c, e1, e2, e3, e4, e5]
end UpperSteps
