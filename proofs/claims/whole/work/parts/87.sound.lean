/-! SOUND: what its methods keep -/
section SoundState
variable {H H1 H2 : mu_H} {m : Nat}
def sq_S (m p : Nat) : Bool := decide (p = 92 ∨ p = 93 ∨ (m < p ∧ p ≤ m + 37))
/-- columns that are written in the parser alone -/
def kc (j c : Nat) : Bool := match j with
  | 1 => decide (c ≤ 6)
  | 3 => decide (c ≤ 3)
  | 7 => decide (c ≠ 1)
  | 9 => decide (c < 2)
  | 10 => false
  | _ => true
def cp (m : Nat) (H H1 : mu_H) : Prop := ∀ j, j < 19 → ∀ i c, c < ps_W j → kc j c = true → cel H1 (m + 1 + 2 * j) (i * ps_W j + c) = cel H (m + 1 + 2 * j) (i * ps_W j + c)
/-- Sound looks at the Model at m -/
def sd (m : Nat) (H : mu_H) : Prop := gi H ∧ (m = 2 ∨ m = 41) ∧ mu_r H 92 2 = some m
/-- what a step of Sound leaves -/
def sq (m : Nat) (H H1 : mu_H) : Prop := gk (sq_S m) H H1 ∧ (∀ j, mu_r H1 92 j = mu_r H 92 j) ∧ (∀ j, j < 19 → gi_sz H1 (m + 1 + 2 * j) = gi_sz H (m + 1 + 2 * j) ∧ gi_cap H1 (m + 1 + 2 * j) = gi_cap H (m + 1 + 2 * j)) ∧ cp m H H1 ∧ (gi_sz H 93 ≤ gi_sz H1 93 ∧ gi_cap H1 93 ≤ max (gi_cap H 93) (10 * gi_sz H1 93 + 5))
theorem sq.refl (m : Nat) (H : mu_H) : sq m H H := ⟨gk.refl _ H, fun _ => rfl, fun _ _ => ⟨rfl, rfl⟩, fun _ _ _ _ _ _ => rfl, Nat.le_refl _, Nat.le_max_left _ _⟩
theorem sq.trans (h : sq m H H1) (h' : sq m H1 H2) : sq m H H2 := by
  obtain ⟨a, b, c, e, f⟩ := h
  obtain ⟨a', b', c', e', f'⟩ := h'
  exact ⟨a.trans a', fun j => (b' j).trans (b j), fun j hj => ⟨((c' j hj).1).trans (c j hj).1, ((c' j hj).2).trans (c j hj).2⟩, fun j hj i k hk hq => (e' j hj i k hk hq).trans (e j hj i k hk hq), by omega, by omega⟩
theorem sd.set (h : sd m H) {j c r : Nat} {row v : Int32} (hj : j < 19) (hr : r = m + 1 + 2 * j) (hcW : c < ps_W j) (hc : kc j c = false) : sd m (rw_set H r (ps_W j) (gi_sz H r) row c v) ∧ sq m H (rw_set H r (ps_W j) (gi_sz H r) row c v) ∧ gi_sz (rw_set H r (ps_W j) (gi_sz H r) row c v) 93 = gi_sz H 93 := by
  obtain ⟨hg, hm, h2⟩ := h
  have hw : gi_w r = some (ps_W j) := by rw [hr]; exact ps_wm hm hj
  obtain ⟨g1, g2⟩ := hg.set (j := c) (row := row) (v := v) hw
  have hk : gk (sq_S m) H (rw_set H r (ps_W j) (gi_sz H r) row c v) := gk.set hg hw (decide_eq_true (by omega))
  have hz : ∀ r' W', gi_w r' = some W' → gi_sz (rw_set H r (ps_W j) (gi_sz H r) row c v) r' = gi_sz H r' := fun r' W' hw' => congrArg Int32.toNatClampNeg (g2 r' 2 (by have : mu_k H r' = 10 := (hg.w hw').1.2.2; omega))
  have hcap : ∀ r', gi_cap (rw_set H r (ps_W j) (gi_sz H r) row c v) r' = gi_cap H r' := fun r' => by
    unfold gi_cap mu_n
    rw [rw_set_r, (rw_set_eq H r (ps_W j) (gi_sz H r) row c v).2.1]
  refine ⟨⟨g1, hm, by rw [rw_set_r]; exact h2⟩, ⟨hk, fun i => rw_set_r _ _ _ _ _ _ _ _ _, fun i hi => ⟨hz _ _ (ps_wm hm hi), hcap _⟩, fun j' hj' i c' hc' hq => ?_, Nat.le_of_eq (hz 93 5 rfl).symm, by rw [hcap]; exact Nat.le_max_left _ _⟩, hz 93 5 rfl⟩
  have e1 : cel (rw_set H r (ps_W j) (gi_sz H r) row c v) (m + 1 + 2 * j') (i * ps_W j' + c') = mu_i (rw_set H r (ps_W j) (gi_sz H r) row c v) (mu_p (mu_r H (m + 1 + 2 * j') 1)) (i * ps_W j' + c') := by unfold cel; rw [rw_set_r]
  rw [e1]
  by_cases ej : j' = j
  · subst ej
    unfold rw_set
    split
    · rfl
    · split
      · rename_i hx
        rw [mu_i_si, if_neg (fun z => ?_)]
        · rfl
        · have e2 := z.2
          have e3 : (i * ps_W j' + c') % ps_W j' = c' := by rw [Nat.mul_comm, Nat.mul_add_mod]; exact Nat.mod_eq_of_lt hc'
          have e4 : (row.toNatClampNeg * ps_W j' + c) % ps_W j' = c := by rw [Nat.mul_comm, Nat.mul_add_mod]; exact Nat.mod_eq_of_lt hcW
          rw [e2, e4] at e3
          rw [← e3, hc] at hq
          cases hq
      · rfl
  · have hne : mu_p (mu_r H (m + 1 + 2 * j') 1) ≠ mu_p (mu_r H r 1) := (hg.cell hw).2.1 (m + 1 + 2 * j') 1 (gi_w_ok (ps_wm hm hj')).2.2.2.2 (by omega)
    exact (rw_set_same hne).i _
end SoundState
section SoundMethods
variable {H : mu_H} {d m : Nat}
/-- PathProver$Sound.instanceFits(I)Z -/
abbrev mu_m185 : ev_M := (4, (some .boolean), [], ev_b185)
theorem mu_g185 : mu_good mu_m185 := mu_goodk ev_k185
theorem so_instanceFits (h : sd m H) (v : Int32) : mu_TI (mu_D (d + 3)) 185 [.inr (.inr (some 92)), .inl v] H (fun x H1 => (x = 0 ∨ x = 1) ∧ sd m H1 ∧ sq m H H1 ∧ gi_sz H1 93 = gi_sz H 93) := by
  have hm := h.2.1
  refine mu_meth (M := mu_m185) rfl rfl ?_
  refine mw_ht (mu_fn_of (show [0, 1].Nodup by decide)) ?_
  refine mw_go mu_g185 (k := 5) (f1 := (7, [(0, .inr (.inr (some 92))), (1, .inl v)], [.inr (.inr (mu_r H 92 2)), .inl (-1 : Int32), .inr (.inr (some 92)), .inr (.inr (some 92))], H)) (C := [mu_is H (some 92) 12]) rfl (show mu_is H (some 92) 12 from h.1.is rfl) ?_
  rw [h.2.2]
  refine mw_go mu_g185 (k := 1) (f1 := (10, [(0, .inr (.inr (some 92))), (1, .inl v)], [.inr (.inr (mu_r H m 3)), .inl (-1 : Int32), .inr (.inr (some 92)), .inr (.inr (some 92))], H)) (C := [mu_is H (some m) 6]) rfl (show mu_is H (some m) 6 from (show mu_is H (some m) 6 from gi_im h.1 h.2.1)) ?_
  rw [(show mu_r H m 3 = some (m + 7) from (gi_mr h.1 h.2.1 (j := 3) (by decide)).trans (congrArg some (by omega)))]
  refine mw_go mu_g185 (k := 2) (f1 := (12, [(0, .inr (.inr (some 92))), (1, .inl v)], [.inl (4 : Int32), .inl v, .inr (.inr (some (m + 7))), .inl (-1 : Int32), .inr (.inr (some 92)), .inr (.inr (some 92))], H)) (C := []) rfl trivial ?_
  refine mw_cIe (fun _ => rfl) (show mu_is H (some (m + 7)) 10 from (h.1.w (md_w3 h.2.1)).1) (gi_get_ok (d := (d + 1)) (H := H) h.1 (md_w3 h.2.1) v (j := 4) (by decide)) ?_
  refine mw_cI (fun _ => rfl) (show mu_is H (some 92) 12 from h.1.is rfl) (so_find (d := d) h.1 (-1 : Int32) (rw_get H (m + 7) 6 (gi_sz H (m + 7)) v 4)) (fun x2 H2 q2 => ?_)
  obtain rfl := q2
  refine mw_cI (fun _ => rfl) (show mu_is H (some 92) 12 from h.1.is rfl) (so_rowOf (d := d) h.1 x2) (fun x3 H3 q3 => ?_)
  obtain rfl := q3
  refine mw_go mu_g185 (k := 2) (f1 := (23, [(2, .inl x3), (0, .inr (.inr (some 92))), (1, .inl v)], [.inl x3], H)) (C := []) rfl trivial ?_
  refine mw_if (P := x3 < 0) (a := 26) (b := 28) (fun _ => rfl) trivial (fun h4 => ?_) (fun h4 => ?_)
  · -- 26: x3 < 0
    refine mw_go mu_g185 (k := 1) (f1 := (27, [(2, .inl x3), (0, .inr (.inr (some 92))), (1, .inl v)], [.inl (0 : Int32)], H)) (C := []) rfl trivial ?_
    exact mw_of (fun _ => mu_ret rfl (Or.inl rfl) ⟨_, H, rfl, Or.inl rfl, h, (sq.refl m H), by omega⟩)
  · -- 28: not x3 < 0
    refine mw_go mu_g185 (k := 2) (f1 := (32, [(2, .inl x3), (0, .inr (.inr (some 92))), (1, .inl v)], [.inr (.inr (mu_r H 92 2))], H)) (C := [mu_is H (some 92) 12]) rfl (show mu_is H (some 92) 12 from h.1.is rfl) ?_
    rw [h.2.2]
    refine mw_go mu_g185 (k := 1) (f1 := (35, [(2, .inl x3), (0, .inr (.inr (some 92))), (1, .inl v)], [.inr (.inr (mu_r H m 3))], H)) (C := [mu_is H (some m) 6]) rfl (show mu_is H (some m) 6 from (show mu_is H (some m) 6 from gi_im h.1 h.2.1)) ?_
    rw [(show mu_r H m 3 = some (m + 7) from (gi_mr h.1 h.2.1 (j := 3) (by decide)).trans (congrArg some (by omega)))]
    refine mw_go mu_g185 (k := 3) (f1 := (38, [(2, .inl x3), (0, .inr (.inr (some 92))), (1, .inl v)], [.inl x3, .inl (4 : Int32), .inl v, .inr (.inr (some (m + 7)))], H)) (C := []) rfl trivial ?_
    refine mw_cV (fun _ => rfl) (show mu_is H (some (m + 7)) 10 from (h.1.w (md_w3 h.2.1)).1) (gi_set_ok (d := (d + 1)) h.1 (md_w3 h.2.1) v x3 (j := 4) (by decide)) (fun H5 q5 => ?_)
    obtain ⟨hp5, qt5, qz5⟩ := h.set (j := 3) (c := 4) (r := (m + 7)) (row := v) (v := x3) (by decide) (by omega) (by decide) rfl
    rw [show rw_set H (m + 7) (ps_W 3) (gi_sz H (m + 7)) v 4 x3 = H5 from q5.symm] at hp5 qt5 qz5
    have ht5 := (sq.refl m H).trans qt5
    refine mw_go mu_g185 (k := 2) (f1 := (45, [(2, .inl x3), (0, .inr (.inr (some 92))), (1, .inl v)], [.inr (.inr (mu_r H5 92 2))], H5)) (C := [mu_is H5 (some 92) 12]) rfl (show mu_is H5 (some 92) 12 from hp5.1.is rfl) ?_
    rw [hp5.2.2]
    refine mw_go mu_g185 (k := 4) (f1 := (51, [(2, .inl x3), (0, .inr (.inr (some 92))), (1, .inl v)], [.inr (.inr (mu_r H5 92 2)), .inl (1 : Int32), .inl x3, .inr (.inr (some m))], H5)) (C := [mu_is H5 (some 92) 12]) rfl (show mu_is H5 (some 92) 12 from hp5.1.is rfl) ?_
    rw [hp5.2.2]
    refine mw_go mu_g185 (k := 1) (f1 := (54, [(2, .inl x3), (0, .inr (.inr (some 92))), (1, .inl v)], [.inr (.inr (mu_r H5 m 2)), .inl (1 : Int32), .inl x3, .inr (.inr (some m))], H5)) (C := [mu_is H5 (some m) 6]) rfl (show mu_is H5 (some m) 6 from (show mu_is H5 (some m) 6 from gi_im hp5.1 hp5.2.1)) ?_
    rw [(show mu_r H5 m 2 = some (m + 5) from (gi_mr hp5.1 hp5.2.1 (j := 2) (by decide)).trans (congrArg some (by omega)))]
    refine mw_cI (fun _ => rfl) (show mu_is H5 (some m) 6 from (show mu_is H5 (some m) 6 from gi_im hp5.1 hp5.2.1)) (md_stop (d := d) hp5.1 hp5.2.1 (md_w2 hp5.2.1) (c := 1) (by decide) x3) (fun x6 H6 q6 => ?_)
    obtain ⟨rfl, hst6⟩ := q6
    refine mw_go mu_g185 (k := 2) (f1 := (61, [(2, .inl x3), (0, .inr (.inr (some 92))), (1, .inl v)], [.inr (.inr (mu_r H5 92 2)), .inl x6], H5)) (C := [mu_is H5 (some 92) 12]) rfl (show mu_is H5 (some 92) 12 from hp5.1.is rfl) ?_
    rw [hp5.2.2]
    refine mw_go mu_g185 (k := 1) (f1 := (64, [(2, .inl x3), (0, .inr (.inr (some 92))), (1, .inl v)], [.inr (.inr (mu_r H5 m 1)), .inl x6], H5)) (C := [mu_is H5 (some m) 6]) rfl (show mu_is H5 (some m) 6 from (show mu_is H5 (some m) 6 from gi_im hp5.1 hp5.2.1)) ?_
    rw [(show mu_r H5 m 1 = some (m + 3) from (gi_mr hp5.1 hp5.2.1 (j := 1) (by decide)).trans (congrArg some (by omega)))]
    refine mw_go mu_g185 (k := 2) (f1 := (66, [(2, .inl x3), (0, .inr (.inr (some 92))), (1, .inl v)], [.inl (1 : Int32), .inl x3, .inr (.inr (some (m + 3))), .inl x6], H5)) (C := []) rfl trivial ?_
    refine mw_cIe (fun _ => rfl) (show mu_is H5 (some (m + 3)) 10 from (hp5.1.w (md_w1 hp5.2.1)).1) (gi_get_ok (d := (d + 1)) (H := H5) hp5.1 (md_w1 hp5.2.1) x3 (j := 1) (by decide)) ?_
    refine mw_go mu_g185 (k := 5) (f1 := (76, [(3, .inl (x6 - (rw_get H5 (m + 3) 11 (gi_sz H5 (m + 3)) x3 1))), (2, .inl x3), (0, .inr (.inr (some 92))), (1, .inl v)], [.inr (.inr (mu_r H5 92 2)), .inl (x6 - (rw_get H5 (m + 3) 11 (gi_sz H5 (m + 3)) x3 1))], H5)) (C := [mu_is H5 (some 92) 12]) rfl (show mu_is H5 (some 92) 12 from hp5.1.is rfl) ?_
    rw [hp5.2.2]
    refine mw_go mu_g185 (k := 1) (f1 := (79, [(3, .inl (x6 - (rw_get H5 (m + 3) 11 (gi_sz H5 (m + 3)) x3 1))), (2, .inl x3), (0, .inr (.inr (some 92))), (1, .inl v)], [.inr (.inr (mu_r H5 m 3)), .inl (x6 - (rw_get H5 (m + 3) 11 (gi_sz H5 (m + 3)) x3 1))], H5)) (C := [mu_is H5 (some m) 6]) rfl (show mu_is H5 (some m) 6 from (show mu_is H5 (some m) 6 from gi_im hp5.1 hp5.2.1)) ?_
    rw [(show mu_r H5 m 3 = some (m + 7) from (gi_mr hp5.1 hp5.2.1 (j := 3) (by decide)).trans (congrArg some (by omega)))]
    refine mw_go mu_g185 (k := 2) (f1 := (81, [(3, .inl (x6 - (rw_get H5 (m + 3) 11 (gi_sz H5 (m + 3)) x3 1))), (2, .inl x3), (0, .inr (.inr (some 92))), (1, .inl v)], [.inl (3 : Int32), .inl v, .inr (.inr (some (m + 7))), .inl (x6 - (rw_get H5 (m + 3) 11 (gi_sz H5 (m + 3)) x3 1))], H5)) (C := []) rfl trivial ?_
    refine mw_cIe (fun _ => rfl) (show mu_is H5 (some (m + 7)) 10 from (hp5.1.w (md_w3 hp5.2.1)).1) (gi_get_ok (d := (d + 1)) (H := H5) hp5.1 (md_w3 hp5.2.1) v (j := 3) (by decide)) ?_
    refine mw_if (P := (x6 - (rw_get H5 (m + 3) 11 (gi_sz H5 (m + 3)) x3 1)) = (rw_get H5 (m + 7) 6 (gi_sz H5 (m + 7)) v 3)) (a := 87) (b := 91) (fun _ => rfl) trivial (fun h9 => ?_) (fun h9 => ?_)
    · -- 87: (x6 - (rw_get H5 (m + 3) 11 (gi_sz H5 (m + 3)) x3 1)) = (rw_get H5 (m + 7) 6 (gi_sz H5 (m + 7)) v 3)
      refine mw_go mu_g185 (k := 2) (f1 := (92, [(3, .inl (x6 - (rw_get H5 (m + 3) 11 (gi_sz H5 (m + 3)) x3 1))), (2, .inl x3), (0, .inr (.inr (some 92))), (1, .inl v)], [.inl (1 : Int32)], H5)) (C := []) rfl trivial ?_
      exact mw_of (fun _ => mu_ret rfl (Or.inr rfl) ⟨_, H5, rfl, Or.inr rfl, hp5, ht5, by omega⟩)
    · -- 91: not (x6 - (rw_get H5 (m + 3) 11 (gi_sz H5 (m + 3)) x3 1)) = (rw_get H5 (m + 7) 6 (gi_sz H5 (m + 7)) v 3)
      refine mw_go mu_g185 (k := 1) (f1 := (92, [(3, .inl (x6 - (rw_get H5 (m + 3) 11 (gi_sz H5 (m + 3)) x3 1))), (2, .inl x3), (0, .inr (.inr (some 92))), (1, .inl v)], [.inl (0 : Int32)], H5)) (C := []) rfl trivial ?_
      exact mw_of (fun _ => mu_ret rfl (Or.inl rfl) ⟨_, H5, rfl, Or.inl rfl, hp5, ht5, by omega⟩)
/-- PathProver$Sound.linesFit(I)Z -/
abbrev mu_m181 : ev_M := (7, (some .boolean), [], ev_b181)
theorem mu_g181 : mu_good mu_m181 := mu_goodk ev_k181
theorem so_linesFit (h : sd m H) (v : Int32) : mu_TI (mu_D (d + 3)) 181 [.inr (.inr (some 92)), .inl v] H (fun x H1 => (x = 0 ∨ x = 1) ∧ sd m H1 ∧ sq m H H1 ∧ gi_sz H1 93 = gi_sz H 93) := by
  have hm := h.2.1
  refine mu_meth (M := mu_m181) rfl rfl ?_
  refine mw_ht (mu_fn_of (show [0, 1].Nodup by decide)) ?_
  refine mw_go mu_g181 (k := 2) (f1 := (4, [(0, .inr (.inr (some 92))), (1, .inl v)], [.inr (.inr (mu_r H 92 2))], H)) (C := [mu_is H (some 92) 12]) rfl (show mu_is H (some 92) 12 from h.1.is rfl) ?_
  rw [h.2.2]
  refine mw_go mu_g181 (k := 1) (f1 := (7, [(0, .inr (.inr (some 92))), (1, .inl v)], [.inr (.inr (mu_r H m 1))], H)) (C := [mu_is H (some m) 6]) rfl (show mu_is H (some m) 6 from (show mu_is H (some m) 6 from gi_im h.1 h.2.1)) ?_
  rw [(show mu_r H m 1 = some (m + 3) from (gi_mr h.1 h.2.1 (j := 1) (by decide)).trans (congrArg some (by omega)))]
  refine mw_go mu_g181 (k := 2) (f1 := (9, [(0, .inr (.inr (some 92))), (1, .inl v)], [.inl (4 : Int32), .inl v, .inr (.inr (some (m + 3)))], H)) (C := []) rfl trivial ?_
  refine mw_cIe (fun _ => rfl) (show mu_is H (some (m + 3)) 10 from (h.1.w (md_w1 h.2.1)).1) (gi_get_ok (d := (d + 1)) (H := H) h.1 (md_w1 h.2.1) v (j := 4) (by decide)) ?_
  refine mw_go mu_g181 (k := 1) (f1 := (13, [(2, .inl (rw_get H (m + 3) 11 (gi_sz H (m + 3)) v 4)), (0, .inr (.inr (some 92))), (1, .inl v)], [], H)) (C := []) rfl trivial ?_
  refine mw_sub (L' := [(2, .inl (rw_get H (m + 3) 11 (gi_sz H (m + 3)) v 4)), (0, .inr (.inr (some 92))), (1, .inl v)]) (by simp) ?_
  refine mw_down (α := Int32 × mu_H) (fun zs => (13, [(2, .inl zs.1), (0, .inr (.inr (some 92))), (1, .inl v)], [], zs.2)) (fun zs => (2147483647 - zs.1.toInt).toNat) (fun zs => sd m zs.2 ∧ sq m H zs.2 ∧ gi_sz zs.2 93 = gi_sz H 93) (fun zs hz iha => ?_) ((rw_get H (m + 3) 11 (gi_sz H (m + 3)) v 4), H) ⟨h, (sq.refl m H), (show gi_sz H 93 = gi_sz H 93 by omega)⟩
  obtain ⟨y, Hsa⟩ := zs
  obtain ⟨hpa, hta, hza⟩ := hz
  have hpa : sd m Hsa := hpa
  have hta : sq m H Hsa := hta
  have hza : gi_sz Hsa 93 = gi_sz H 93 := hza
  show mu_W _ _ (13, [(2, .inl y), (0, .inr (.inr (some 92))), (1, .inl v)], [], Hsa) _
  refine mw_go mu_g181 (k := 3) (f1 := (18, [(2, .inl y), (0, .inr (.inr (some 92))), (1, .inl v)], [.inr (.inr (mu_r Hsa 92 2)), .inl y], Hsa)) (C := [mu_is Hsa (some 92) 12]) rfl (show mu_is Hsa (some 92) 12 from hpa.1.is rfl) ?_
  rw [hpa.2.2]
  refine mw_go mu_g181 (k := 4) (f1 := (24, [(2, .inl y), (0, .inr (.inr (some 92))), (1, .inl v)], [.inr (.inr (mu_r Hsa 92 2)), .inl (4 : Int32), .inl v, .inr (.inr (some m)), .inl y], Hsa)) (C := [mu_is Hsa (some 92) 12]) rfl (show mu_is Hsa (some 92) 12 from hpa.1.is rfl) ?_
  rw [hpa.2.2]
  refine mw_go mu_g181 (k := 1) (f1 := (27, [(2, .inl y), (0, .inr (.inr (some 92))), (1, .inl v)], [.inr (.inr (mu_r Hsa m 7)), .inl (4 : Int32), .inl v, .inr (.inr (some m)), .inl y], Hsa)) (C := [mu_is Hsa (some m) 6]) rfl (show mu_is Hsa (some m) 6 from (show mu_is Hsa (some m) 6 from gi_im hpa.1 hpa.2.1)) ?_
  rw [(show mu_r Hsa m 7 = some (m + 15) from (gi_mr hpa.1 hpa.2.1 (j := 7) (by decide)).trans (congrArg some (by omega)))]
  refine mw_cI (fun _ => rfl) (show mu_is Hsa (some m) 6 from (show mu_is Hsa (some m) 6 from gi_im hpa.1 hpa.2.1)) (md_stop (d := d) hpa.1 hpa.2.1 (md_w7 hpa.2.1) (c := 4) (by decide) v) (fun x2 H2 q2 => ?_)
  obtain ⟨rfl, hst2⟩ := q2
  refine mw_if (P := y < x2) (a := 33) (b := 159) (fun _ => rfl) trivial (fun h3 => ?_) (fun h3 => ?_)
  · -- 33: y < x2
    have huph3 := i32_up h3
    refine mw_go mu_g181 (k := 4) (f1 := (39, [(2, .inl y), (0, .inr (.inr (some 92))), (1, .inl v)], [.inr (.inr (mu_r Hsa 92 2)), .inl v, .inr (.inr (some 92))], Hsa)) (C := [mu_is Hsa (some 92) 12]) rfl (show mu_is Hsa (some 92) 12 from hpa.1.is rfl) ?_
    rw [hpa.2.2]
    refine mw_go mu_g181 (k := 1) (f1 := (42, [(2, .inl y), (0, .inr (.inr (some 92))), (1, .inl v)], [.inr (.inr (mu_r Hsa m 7)), .inl v, .inr (.inr (some 92))], Hsa)) (C := [mu_is Hsa (some m) 6]) rfl (show mu_is Hsa (some m) 6 from (show mu_is Hsa (some m) 6 from gi_im hpa.1 hpa.2.1)) ?_
    rw [(show mu_r Hsa m 7 = some (m + 15) from (gi_mr hpa.1 hpa.2.1 (j := 7) (by decide)).trans (congrArg some (by omega)))]
    refine mw_go mu_g181 (k := 2) (f1 := (44, [(2, .inl y), (0, .inr (.inr (some 92))), (1, .inl v)], [.inl (1 : Int32), .inl y, .inr (.inr (some (m + 15))), .inl v, .inr (.inr (some 92))], Hsa)) (C := []) rfl trivial ?_
    refine mw_cIe (fun _ => rfl) (show mu_is Hsa (some (m + 15)) 10 from (hpa.1.w (md_w7 hpa.2.1)).1) (gi_get_ok (d := (d + 1)) (H := Hsa) hpa.1 (md_w7 hpa.2.1) y (j := 1) (by decide)) ?_
    refine mw_cI (fun _ => rfl) (show mu_is Hsa (some 92) 12 from hpa.1.is rfl) (so_find (d := d) hpa.1 v (rw_get Hsa (m + 15) 4 (gi_sz Hsa (m + 15)) y 1)) (fun x5 H5 q5 => ?_)
    obtain rfl := q5
    refine mw_go mu_g181 (k := 3) (f1 := (53, [(3, .inl x5), (2, .inl y), (0, .inr (.inr (some 92))), (1, .inl v)], [.inl x5, .inr (.inr (some 92))], Hsa)) (C := []) rfl trivial ?_
    refine mw_cI (fun _ => rfl) (show mu_is Hsa (some 92) 12 from hpa.1.is rfl) (so_kindOf (d := d) hpa.1 x5) (fun x6 H6 q6 => ?_)
    obtain rfl := q6
    refine mw_go mu_g181 (k := 1) (f1 := (57, [(3, .inl x5), (2, .inl y), (0, .inr (.inr (some 92))), (1, .inl v)], [.inl (3 : Int32), .inl x6], Hsa)) (C := []) rfl trivial ?_
    refine mw_if (P := x6 = (3 : Int32)) (a := 62) (b := 60) (fun _ => rfl) trivial (fun h7 => ?_) (fun h7 => ?_)
    · -- 62: x6 = (3 : Int32)
      refine mw_go mu_g181 (k := 2) (f1 := (64, [(3, .inl x5), (2, .inl y), (0, .inr (.inr (some 92))), (1, .inl v)], [.inl x5, .inr (.inr (some 92))], Hsa)) (C := []) rfl trivial ?_
      refine mw_cI (fun _ => rfl) (show mu_is Hsa (some 92) 12 from hpa.1.is rfl) (so_rowOf (d := d) hpa.1 x5) (fun x8 H8 q8 => ?_)
      obtain rfl := q8
      refine mw_go mu_g181 (k := 3) (f1 := (73, [(4, .inl x8), (3, .inl x5), (2, .inl y), (0, .inr (.inr (some 92))), (1, .inl v)], [.inr (.inr (mu_r Hsa 92 2))], Hsa)) (C := [mu_is Hsa (some 92) 12]) rfl (show mu_is Hsa (some 92) 12 from hpa.1.is rfl) ?_
      rw [hpa.2.2]
      refine mw_go mu_g181 (k := 1) (f1 := (76, [(4, .inl x8), (3, .inl x5), (2, .inl y), (0, .inr (.inr (some 92))), (1, .inl v)], [.inr (.inr (mu_r Hsa m 7))], Hsa)) (C := [mu_is Hsa (some m) 6]) rfl (show mu_is Hsa (some m) 6 from (show mu_is Hsa (some m) 6 from gi_im hpa.1 hpa.2.1)) ?_
      rw [(show mu_r Hsa m 7 = some (m + 15) from (gi_mr hpa.1 hpa.2.1 (j := 7) (by decide)).trans (congrArg some (by omega)))]
      refine mw_go mu_g181 (k := 2) (f1 := (78, [(4, .inl x8), (3, .inl x5), (2, .inl y), (0, .inr (.inr (some 92))), (1, .inl v)], [.inl (0 : Int32), .inl y, .inr (.inr (some (m + 15)))], Hsa)) (C := []) rfl trivial ?_
      refine mw_cIe (fun _ => rfl) (show mu_is Hsa (some (m + 15)) 10 from (hpa.1.w (md_w7 hpa.2.1)).1) (gi_get_ok (d := (d + 1)) (H := Hsa) hpa.1 (md_w7 hpa.2.1) y (j := 0) (by decide)) ?_
      refine mw_go mu_g181 (k := 3) (f1 := (87, [(5, .inl (rw_get Hsa (m + 15) 4 (gi_sz Hsa (m + 15)) y 0)), (4, .inl x8), (3, .inl x5), (2, .inl y), (0, .inr (.inr (some 92))), (1, .inl v)], [.inr (.inr (mu_r Hsa 92 2))], Hsa)) (C := [mu_is Hsa (some 92) 12]) rfl (show mu_is Hsa (some 92) 12 from hpa.1.is rfl) ?_
      rw [hpa.2.2]
      refine mw_go mu_g181 (k := 1) (f1 := (90, [(5, .inl (rw_get Hsa (m + 15) 4 (gi_sz Hsa (m + 15)) y 0)), (4, .inl x8), (3, .inl x5), (2, .inl y), (0, .inr (.inr (some 92))), (1, .inl v)], [.inr (.inr (mu_r Hsa m 3))], Hsa)) (C := [mu_is Hsa (some m) 6]) rfl (show mu_is Hsa (some m) 6 from (show mu_is Hsa (some m) 6 from gi_im hpa.1 hpa.2.1)) ?_
      rw [(show mu_r Hsa m 3 = some (m + 7) from (gi_mr hpa.1 hpa.2.1 (j := 3) (by decide)).trans (congrArg some (by omega)))]
      refine mw_go mu_g181 (k := 2) (f1 := (93, [(5, .inl (rw_get Hsa (m + 15) 4 (gi_sz Hsa (m + 15)) y 0)), (4, .inl x8), (3, .inl x5), (2, .inl y), (0, .inr (.inr (some 92))), (1, .inl v)], [.inl (5 : Int32), .inl x8, .inr (.inr (some (m + 7)))], Hsa)) (C := []) rfl trivial ?_
      refine mw_cIe (fun _ => rfl) (show mu_is Hsa (some (m + 7)) 10 from (hpa.1.w (md_w3 hpa.2.1)).1) (gi_get_ok (d := (d + 1)) (H := Hsa) hpa.1 (md_w3 hpa.2.1) x8 (j := 5) (by decide)) ?_
      refine mw_go mu_g181 (k := 3) (f1 := (101, [(6, .inl (rw_get Hsa (m + 7) 6 (gi_sz Hsa (m + 7)) x8 5)), (5, .inl (rw_get Hsa (m + 15) 4 (gi_sz Hsa (m + 15)) y 0)), (4, .inl x8), (3, .inl x5), (2, .inl y), (0, .inr (.inr (some 92))), (1, .inl v)], [.inl (1 : Int32), .inl (rw_get Hsa (m + 15) 4 (gi_sz Hsa (m + 15)) y 0)], Hsa)) (C := []) rfl trivial ?_
      refine mw_if (P := (rw_get Hsa (m + 15) 4 (gi_sz Hsa (m + 15)) y 0) = (1 : Int32)) (a := 104) (b := 109) (fun _ => rfl) trivial (fun h11 => ?_) (fun h11 => ?_)
      · -- 104: (rw_get Hsa (m + 15) 4 (gi_sz Hsa (m + 15)) y 0) = (1 : Int32)
        refine mw_go mu_g181 (k := 1) (f1 := (106, [(6, .inl (rw_get Hsa (m + 7) 6 (gi_sz Hsa (m + 7)) x8 5)), (5, .inl (rw_get Hsa (m + 15) 4 (gi_sz Hsa (m + 15)) y 0)), (4, .inl x8), (3, .inl x5), (2, .inl y), (0, .inr (.inr (some 92))), (1, .inl v)], [.inl (rw_get Hsa (m + 7) 6 (gi_sz Hsa (m + 7)) x8 5)], Hsa)) (C := []) rfl trivial ?_
        refine mw_if (P := (rw_get Hsa (m + 7) 6 (gi_sz Hsa (m + 7)) x8 5) = 0) (a := 109) (b := 119) (fun _ => rfl) trivial (fun h12 => ?_) (fun h12 => ?_)
        · -- 109: (rw_get Hsa (m + 7) 6 (gi_sz Hsa (m + 7)) x8 5) = 0
          refine mw_go mu_g181 (k := 5) (f1 := (116, [(6, .inl (rw_get Hsa (m + 7) 6 (gi_sz Hsa (m + 7)) x8 5)), (5, .inl (rw_get Hsa (m + 15) 4 (gi_sz Hsa (m + 15)) y 0)), (4, .inl x8), (3, .inl x5), (2, .inl y), (0, .inr (.inr (some 92))), (1, .inl v)], [.inl ((rw_get Hsa (m + 7) 6 (gi_sz Hsa (m + 7)) x8 5) &&& ((rw_get Hsa (m + 15) 4 (gi_sz Hsa (m + 15)) y 0) ||| (1 : Int32)))], Hsa)) (C := []) rfl trivial ?_
          refine mw_if (P := ((rw_get Hsa (m + 7) 6 (gi_sz Hsa (m + 7)) x8 5) &&& ((rw_get Hsa (m + 15) 4 (gi_sz Hsa (m + 15)) y 0) ||| (1 : Int32))) = 0) (a := 121) (b := 119) (fun _ => rfl) trivial (fun h13 => ?_) (fun h13 => ?_)
          · -- 121: ((rw_get Hsa (m + 7) 6 (gi_sz Hsa (m + 7)) x8 5) &&& ((rw_get Hsa (m + 15) 4 (gi_sz Hsa (m + 15)) y 0) ||| (1 : Int32))) = 0
            refine mw_go mu_g181 (k := 2) (f1 := (125, [(6, .inl (rw_get Hsa (m + 7) 6 (gi_sz Hsa (m + 7)) x8 5)), (5, .inl (rw_get Hsa (m + 15) 4 (gi_sz Hsa (m + 15)) y 0)), (4, .inl x8), (3, .inl x5), (2, .inl y), (0, .inr (.inr (some 92))), (1, .inl v)], [.inr (.inr (mu_r Hsa 92 2))], Hsa)) (C := [mu_is Hsa (some 92) 12]) rfl (show mu_is Hsa (some 92) 12 from hpa.1.is rfl) ?_
            rw [hpa.2.2]
            refine mw_go mu_g181 (k := 1) (f1 := (128, [(6, .inl (rw_get Hsa (m + 7) 6 (gi_sz Hsa (m + 7)) x8 5)), (5, .inl (rw_get Hsa (m + 15) 4 (gi_sz Hsa (m + 15)) y 0)), (4, .inl x8), (3, .inl x5), (2, .inl y), (0, .inr (.inr (some 92))), (1, .inl v)], [.inr (.inr (mu_r Hsa m 3))], Hsa)) (C := [mu_is Hsa (some m) 6]) rfl (show mu_is Hsa (some m) 6 from (show mu_is Hsa (some m) 6 from gi_im hpa.1 hpa.2.1)) ?_
            rw [(show mu_r Hsa m 3 = some (m + 7) from (gi_mr hpa.1 hpa.2.1 (j := 3) (by decide)).trans (congrArg some (by omega)))]
            refine mw_go mu_g181 (k := 5) (f1 := (136, [(6, .inl (rw_get Hsa (m + 7) 6 (gi_sz Hsa (m + 7)) x8 5)), (5, .inl (rw_get Hsa (m + 15) 4 (gi_sz Hsa (m + 15)) y 0)), (4, .inl x8), (3, .inl x5), (2, .inl y), (0, .inr (.inr (some 92))), (1, .inl v)], [.inl ((rw_get Hsa (m + 7) 6 (gi_sz Hsa (m + 7)) x8 5) ||| (rw_get Hsa (m + 15) 4 (gi_sz Hsa (m + 15)) y 0)), .inl (5 : Int32), .inl x8, .inr (.inr (some (m + 7)))], Hsa)) (C := []) rfl trivial ?_
            refine mw_cV (fun _ => rfl) (show mu_is Hsa (some (m + 7)) 10 from (hpa.1.w (md_w3 hpa.2.1)).1) (gi_set_ok (d := (d + 1)) hpa.1 (md_w3 hpa.2.1) x8 ((rw_get Hsa (m + 7) 6 (gi_sz Hsa (m + 7)) x8 5) ||| (rw_get Hsa (m + 15) 4 (gi_sz Hsa (m + 15)) y 0)) (j := 5) (by decide)) (fun H14 q14 => ?_)
            obtain ⟨hp14, qt14, qz14⟩ := hpa.set (j := 3) (c := 5) (r := (m + 7)) (row := x8) (v := ((rw_get Hsa (m + 7) 6 (gi_sz Hsa (m + 7)) x8 5) ||| (rw_get Hsa (m + 15) 4 (gi_sz Hsa (m + 15)) y 0))) (by decide) (by omega) (by decide) rfl
            rw [show rw_set Hsa (m + 7) (ps_W 3) (gi_sz Hsa (m + 7)) x8 5 ((rw_get Hsa (m + 7) 6 (gi_sz Hsa (m + 7)) x8 5) ||| (rw_get Hsa (m + 15) 4 (gi_sz Hsa (m + 15)) y 0)) = H14 from q14.symm] at hp14 qt14 qz14
            have ht14 := hta.trans qt14
            refine mw_go mu_g181 (k := 2) (f1 := (143, [(6, .inl (rw_get Hsa (m + 7) 6 (gi_sz Hsa (m + 7)) x8 5)), (5, .inl (rw_get Hsa (m + 15) 4 (gi_sz Hsa (m + 15)) y 0)), (4, .inl x8), (3, .inl x5), (2, .inl y), (0, .inr (.inr (some 92))), (1, .inl v)], [.inr (.inr (mu_r H14 92 2))], H14)) (C := [mu_is H14 (some 92) 12]) rfl (show mu_is H14 (some 92) 12 from hp14.1.is rfl) ?_
            rw [hp14.2.2]
            refine mw_go mu_g181 (k := 1) (f1 := (146, [(6, .inl (rw_get Hsa (m + 7) 6 (gi_sz Hsa (m + 7)) x8 5)), (5, .inl (rw_get Hsa (m + 15) 4 (gi_sz Hsa (m + 15)) y 0)), (4, .inl x8), (3, .inl x5), (2, .inl y), (0, .inr (.inr (some 92))), (1, .inl v)], [.inr (.inr (mu_r H14 m 7))], H14)) (C := [mu_is H14 (some m) 6]) rfl (show mu_is H14 (some m) 6 from (show mu_is H14 (some m) 6 from gi_im hp14.1 hp14.2.1)) ?_
            rw [(show mu_r H14 m 7 = some (m + 15) from (gi_mr hp14.1 hp14.2.1 (j := 7) (by decide)).trans (congrArg some (by omega)))]
            refine mw_go mu_g181 (k := 3) (f1 := (150, [(6, .inl (rw_get Hsa (m + 7) 6 (gi_sz Hsa (m + 7)) x8 5)), (5, .inl (rw_get Hsa (m + 15) 4 (gi_sz Hsa (m + 15)) y 0)), (4, .inl x8), (3, .inl x5), (2, .inl y), (0, .inr (.inr (some 92))), (1, .inl v)], [.inl x8, .inl (1 : Int32), .inl y, .inr (.inr (some (m + 15)))], H14)) (C := []) rfl trivial ?_
            refine mw_cV (fun _ => rfl) (show mu_is H14 (some (m + 15)) 10 from (hp14.1.w (md_w7 hp14.2.1)).1) (gi_set_ok (d := (d + 1)) hp14.1 (md_w7 hp14.2.1) y x8 (j := 1) (by decide)) (fun H15 q15 => ?_)
            obtain ⟨hp15, qt15, qz15⟩ := hp14.set (j := 7) (c := 1) (r := (m + 15)) (row := y) (v := x8) (by decide) (by omega) (by decide) rfl
            rw [show rw_set H14 (m + 15) (ps_W 7) (gi_sz H14 (m + 15)) y 1 x8 = H15 from q15.symm] at hp15 qt15 qz15
            have ht15 := ht14.trans qt15
            refine mw_go mu_g181 (k := 2) (f1 := (13, [(2, .inl (y + 1)), (6, .inl (rw_get Hsa (m + 7) 6 (gi_sz Hsa (m + 7)) x8 5)), (5, .inl (rw_get Hsa (m + 15) 4 (gi_sz Hsa (m + 15)) y 0)), (4, .inl x8), (3, .inl x5), (0, .inr (.inr (some 92))), (1, .inl v)], [], H15)) (C := []) rfl trivial ?_
            exact mw_sub (by simp) (iha ((y + 1), H15) ⟨hp15, ht15, (show gi_sz H15 93 = gi_sz H 93 by omega)⟩ (by show (2147483647 - (y + 1).toInt).toNat < (2147483647 - y.toInt).toNat; omega))
          · -- 119: not ((rw_get Hsa (m + 7) 6 (gi_sz Hsa (m + 7)) x8 5) &&& ((rw_get Hsa (m + 15) 4 (gi_sz Hsa (m + 15)) y 0) ||| (1 : Int32))) = 0
            refine mw_go mu_g181 (k := 1) (f1 := (120, [(6, .inl (rw_get Hsa (m + 7) 6 (gi_sz Hsa (m + 7)) x8 5)), (5, .inl (rw_get Hsa (m + 15) 4 (gi_sz Hsa (m + 15)) y 0)), (4, .inl x8), (3, .inl x5), (2, .inl y), (0, .inr (.inr (some 92))), (1, .inl v)], [.inl (0 : Int32)], Hsa)) (C := []) rfl trivial ?_
            exact mw_of (fun _ => mu_ret rfl (Or.inl rfl) ⟨_, Hsa, rfl, Or.inl rfl, hpa, hta, by omega⟩)
        · -- 119: not (rw_get Hsa (m + 7) 6 (gi_sz Hsa (m + 7)) x8 5) = 0
          refine mw_go mu_g181 (k := 1) (f1 := (120, [(6, .inl (rw_get Hsa (m + 7) 6 (gi_sz Hsa (m + 7)) x8 5)), (5, .inl (rw_get Hsa (m + 15) 4 (gi_sz Hsa (m + 15)) y 0)), (4, .inl x8), (3, .inl x5), (2, .inl y), (0, .inr (.inr (some 92))), (1, .inl v)], [.inl (0 : Int32)], Hsa)) (C := []) rfl trivial ?_
          exact mw_of (fun _ => mu_ret rfl (Or.inl rfl) ⟨_, Hsa, rfl, Or.inl rfl, hpa, hta, by omega⟩)
      · -- 109: not (rw_get Hsa (m + 15) 4 (gi_sz Hsa (m + 15)) y 0) = (1 : Int32)
        refine mw_go mu_g181 (k := 5) (f1 := (116, [(6, .inl (rw_get Hsa (m + 7) 6 (gi_sz Hsa (m + 7)) x8 5)), (5, .inl (rw_get Hsa (m + 15) 4 (gi_sz Hsa (m + 15)) y 0)), (4, .inl x8), (3, .inl x5), (2, .inl y), (0, .inr (.inr (some 92))), (1, .inl v)], [.inl ((rw_get Hsa (m + 7) 6 (gi_sz Hsa (m + 7)) x8 5) &&& ((rw_get Hsa (m + 15) 4 (gi_sz Hsa (m + 15)) y 0) ||| (1 : Int32)))], Hsa)) (C := []) rfl trivial ?_
        refine mw_if (P := ((rw_get Hsa (m + 7) 6 (gi_sz Hsa (m + 7)) x8 5) &&& ((rw_get Hsa (m + 15) 4 (gi_sz Hsa (m + 15)) y 0) ||| (1 : Int32))) = 0) (a := 121) (b := 119) (fun _ => rfl) trivial (fun h16 => ?_) (fun h16 => ?_)
        · -- 121: ((rw_get Hsa (m + 7) 6 (gi_sz Hsa (m + 7)) x8 5) &&& ((rw_get Hsa (m + 15) 4 (gi_sz Hsa (m + 15)) y 0) ||| (1 : Int32))) = 0
          refine mw_go mu_g181 (k := 2) (f1 := (125, [(6, .inl (rw_get Hsa (m + 7) 6 (gi_sz Hsa (m + 7)) x8 5)), (5, .inl (rw_get Hsa (m + 15) 4 (gi_sz Hsa (m + 15)) y 0)), (4, .inl x8), (3, .inl x5), (2, .inl y), (0, .inr (.inr (some 92))), (1, .inl v)], [.inr (.inr (mu_r Hsa 92 2))], Hsa)) (C := [mu_is Hsa (some 92) 12]) rfl (show mu_is Hsa (some 92) 12 from hpa.1.is rfl) ?_
          rw [hpa.2.2]
          refine mw_go mu_g181 (k := 1) (f1 := (128, [(6, .inl (rw_get Hsa (m + 7) 6 (gi_sz Hsa (m + 7)) x8 5)), (5, .inl (rw_get Hsa (m + 15) 4 (gi_sz Hsa (m + 15)) y 0)), (4, .inl x8), (3, .inl x5), (2, .inl y), (0, .inr (.inr (some 92))), (1, .inl v)], [.inr (.inr (mu_r Hsa m 3))], Hsa)) (C := [mu_is Hsa (some m) 6]) rfl (show mu_is Hsa (some m) 6 from (show mu_is Hsa (some m) 6 from gi_im hpa.1 hpa.2.1)) ?_
          rw [(show mu_r Hsa m 3 = some (m + 7) from (gi_mr hpa.1 hpa.2.1 (j := 3) (by decide)).trans (congrArg some (by omega)))]
          refine mw_go mu_g181 (k := 5) (f1 := (136, [(6, .inl (rw_get Hsa (m + 7) 6 (gi_sz Hsa (m + 7)) x8 5)), (5, .inl (rw_get Hsa (m + 15) 4 (gi_sz Hsa (m + 15)) y 0)), (4, .inl x8), (3, .inl x5), (2, .inl y), (0, .inr (.inr (some 92))), (1, .inl v)], [.inl ((rw_get Hsa (m + 7) 6 (gi_sz Hsa (m + 7)) x8 5) ||| (rw_get Hsa (m + 15) 4 (gi_sz Hsa (m + 15)) y 0)), .inl (5 : Int32), .inl x8, .inr (.inr (some (m + 7)))], Hsa)) (C := []) rfl trivial ?_
          refine mw_cV (fun _ => rfl) (show mu_is Hsa (some (m + 7)) 10 from (hpa.1.w (md_w3 hpa.2.1)).1) (gi_set_ok (d := (d + 1)) hpa.1 (md_w3 hpa.2.1) x8 ((rw_get Hsa (m + 7) 6 (gi_sz Hsa (m + 7)) x8 5) ||| (rw_get Hsa (m + 15) 4 (gi_sz Hsa (m + 15)) y 0)) (j := 5) (by decide)) (fun H17 q17 => ?_)
          obtain ⟨hp17, qt17, qz17⟩ := hpa.set (j := 3) (c := 5) (r := (m + 7)) (row := x8) (v := ((rw_get Hsa (m + 7) 6 (gi_sz Hsa (m + 7)) x8 5) ||| (rw_get Hsa (m + 15) 4 (gi_sz Hsa (m + 15)) y 0))) (by decide) (by omega) (by decide) rfl
          rw [show rw_set Hsa (m + 7) (ps_W 3) (gi_sz Hsa (m + 7)) x8 5 ((rw_get Hsa (m + 7) 6 (gi_sz Hsa (m + 7)) x8 5) ||| (rw_get Hsa (m + 15) 4 (gi_sz Hsa (m + 15)) y 0)) = H17 from q17.symm] at hp17 qt17 qz17
          have ht17 := hta.trans qt17
          refine mw_go mu_g181 (k := 2) (f1 := (143, [(6, .inl (rw_get Hsa (m + 7) 6 (gi_sz Hsa (m + 7)) x8 5)), (5, .inl (rw_get Hsa (m + 15) 4 (gi_sz Hsa (m + 15)) y 0)), (4, .inl x8), (3, .inl x5), (2, .inl y), (0, .inr (.inr (some 92))), (1, .inl v)], [.inr (.inr (mu_r H17 92 2))], H17)) (C := [mu_is H17 (some 92) 12]) rfl (show mu_is H17 (some 92) 12 from hp17.1.is rfl) ?_
          rw [hp17.2.2]
          refine mw_go mu_g181 (k := 1) (f1 := (146, [(6, .inl (rw_get Hsa (m + 7) 6 (gi_sz Hsa (m + 7)) x8 5)), (5, .inl (rw_get Hsa (m + 15) 4 (gi_sz Hsa (m + 15)) y 0)), (4, .inl x8), (3, .inl x5), (2, .inl y), (0, .inr (.inr (some 92))), (1, .inl v)], [.inr (.inr (mu_r H17 m 7))], H17)) (C := [mu_is H17 (some m) 6]) rfl (show mu_is H17 (some m) 6 from (show mu_is H17 (some m) 6 from gi_im hp17.1 hp17.2.1)) ?_
          rw [(show mu_r H17 m 7 = some (m + 15) from (gi_mr hp17.1 hp17.2.1 (j := 7) (by decide)).trans (congrArg some (by omega)))]
          refine mw_go mu_g181 (k := 3) (f1 := (150, [(6, .inl (rw_get Hsa (m + 7) 6 (gi_sz Hsa (m + 7)) x8 5)), (5, .inl (rw_get Hsa (m + 15) 4 (gi_sz Hsa (m + 15)) y 0)), (4, .inl x8), (3, .inl x5), (2, .inl y), (0, .inr (.inr (some 92))), (1, .inl v)], [.inl x8, .inl (1 : Int32), .inl y, .inr (.inr (some (m + 15)))], H17)) (C := []) rfl trivial ?_
          refine mw_cV (fun _ => rfl) (show mu_is H17 (some (m + 15)) 10 from (hp17.1.w (md_w7 hp17.2.1)).1) (gi_set_ok (d := (d + 1)) hp17.1 (md_w7 hp17.2.1) y x8 (j := 1) (by decide)) (fun H18 q18 => ?_)
          obtain ⟨hp18, qt18, qz18⟩ := hp17.set (j := 7) (c := 1) (r := (m + 15)) (row := y) (v := x8) (by decide) (by omega) (by decide) rfl
          rw [show rw_set H17 (m + 15) (ps_W 7) (gi_sz H17 (m + 15)) y 1 x8 = H18 from q18.symm] at hp18 qt18 qz18
          have ht18 := ht17.trans qt18
          refine mw_go mu_g181 (k := 2) (f1 := (13, [(2, .inl (y + 1)), (6, .inl (rw_get Hsa (m + 7) 6 (gi_sz Hsa (m + 7)) x8 5)), (5, .inl (rw_get Hsa (m + 15) 4 (gi_sz Hsa (m + 15)) y 0)), (4, .inl x8), (3, .inl x5), (0, .inr (.inr (some 92))), (1, .inl v)], [], H18)) (C := []) rfl trivial ?_
          exact mw_sub (by simp) (iha ((y + 1), H18) ⟨hp18, ht18, (show gi_sz H18 93 = gi_sz H 93 by omega)⟩ (by show (2147483647 - (y + 1).toInt).toNat < (2147483647 - y.toInt).toNat; omega))
        · -- 119: not ((rw_get Hsa (m + 7) 6 (gi_sz Hsa (m + 7)) x8 5) &&& ((rw_get Hsa (m + 15) 4 (gi_sz Hsa (m + 15)) y 0) ||| (1 : Int32))) = 0
          refine mw_go mu_g181 (k := 1) (f1 := (120, [(6, .inl (rw_get Hsa (m + 7) 6 (gi_sz Hsa (m + 7)) x8 5)), (5, .inl (rw_get Hsa (m + 15) 4 (gi_sz Hsa (m + 15)) y 0)), (4, .inl x8), (3, .inl x5), (2, .inl y), (0, .inr (.inr (some 92))), (1, .inl v)], [.inl (0 : Int32)], Hsa)) (C := []) rfl trivial ?_
          exact mw_of (fun _ => mu_ret rfl (Or.inl rfl) ⟨_, Hsa, rfl, Or.inl rfl, hpa, hta, by omega⟩)
    · -- 60: not x6 = (3 : Int32)
      refine mw_go mu_g181 (k := 1) (f1 := (61, [(3, .inl x5), (2, .inl y), (0, .inr (.inr (some 92))), (1, .inl v)], [.inl (0 : Int32)], Hsa)) (C := []) rfl trivial ?_
      exact mw_of (fun _ => mu_ret rfl (Or.inl rfl) ⟨_, Hsa, rfl, Or.inl rfl, hpa, hta, by omega⟩)
  · -- 159: not y < x2
    refine mw_go mu_g181 (k := 1) (f1 := (160, [(2, .inl y), (0, .inr (.inr (some 92))), (1, .inl v)], [.inl (1 : Int32)], Hsa)) (C := []) rfl trivial ?_
    exact mw_of (fun _ => mu_ret rfl (Or.inr rfl) ⟨_, Hsa, rfl, Or.inr rfl, hpa, hta, by omega⟩)
/-- PathProver$Sound.reckon(I)Z -/
abbrev mu_m183 : ev_M := (6, (some .boolean), [], ev_b183)
theorem mu_g183 : mu_good mu_m183 := mu_goodk ev_k183
theorem so_reckon (h : sd m H) (v : Int32) : mu_TI (mu_D (d + 3)) 183 [.inr (.inr (some 92)), .inl v] H (fun x H1 => (x = 0 ∨ x = 1) ∧ sd m H1 ∧ sq m H H1 ∧ gi_sz H1 93 = gi_sz H 93) := by
  have hm := h.2.1
  refine mu_meth (M := mu_m183) rfl rfl ?_
  refine mw_ht (mu_fn_of (show [0, 1].Nodup by decide)) ?_
  refine mw_go mu_g183 (k := 4) (f1 := (6, [(2, .inl (1 : Int32)), (0, .inr (.inr (some 92))), (1, .inl v)], [.inr (.inr (mu_r H 92 2))], H)) (C := [mu_is H (some 92) 12]) rfl (show mu_is H (some 92) 12 from h.1.is rfl) ?_
  rw [h.2.2]
  refine mw_go mu_g183 (k := 4) (f1 := (12, [(2, .inl (1 : Int32)), (0, .inr (.inr (some 92))), (1, .inl v)], [.inr (.inr (mu_r H 92 2)), .inl (3 : Int32), .inl v, .inr (.inr (some m))], H)) (C := [mu_is H (some 92) 12]) rfl (show mu_is H (some 92) 12 from h.1.is rfl) ?_
  rw [h.2.2]
  refine mw_go mu_g183 (k := 1) (f1 := (15, [(2, .inl (1 : Int32)), (0, .inr (.inr (some 92))), (1, .inl v)], [.inr (.inr (mu_r H m 6)), .inl (3 : Int32), .inl v, .inr (.inr (some m))], H)) (C := [mu_is H (some m) 6]) rfl (show mu_is H (some m) 6 from (show mu_is H (some m) 6 from gi_im h.1 h.2.1)) ?_
  rw [(show mu_r H m 6 = some (m + 13) from (gi_mr h.1 h.2.1 (j := 6) (by decide)).trans (congrArg some (by omega)))]
  refine mw_cI (fun _ => rfl) (show mu_is H (some m) 6 from (show mu_is H (some m) 6 from gi_im h.1 h.2.1)) (md_stop (d := d) h.1 h.2.1 (md_w6 h.2.1) (c := 3) (by decide) v) (fun x1 H1 q1 => ?_)
  obtain ⟨rfl, hst1⟩ := q1
  refine mw_go mu_g183 (k := 2) (f1 := (22, [(2, .inl (1 : Int32)), (0, .inr (.inr (some 92))), (1, .inl v)], [.inr (.inr (mu_r H 92 2)), .inl x1], H)) (C := [mu_is H (some 92) 12]) rfl (show mu_is H (some 92) 12 from h.1.is rfl) ?_
  rw [h.2.2]
  refine mw_go mu_g183 (k := 1) (f1 := (25, [(2, .inl (1 : Int32)), (0, .inr (.inr (some 92))), (1, .inl v)], [.inr (.inr (mu_r H m 1)), .inl x1], H)) (C := [mu_is H (some m) 6]) rfl (show mu_is H (some m) 6 from (show mu_is H (some m) 6 from gi_im h.1 h.2.1)) ?_
  rw [(show mu_r H m 1 = some (m + 3) from (gi_mr h.1 h.2.1 (j := 1) (by decide)).trans (congrArg some (by omega)))]
  refine mw_go mu_g183 (k := 2) (f1 := (27, [(2, .inl (1 : Int32)), (0, .inr (.inr (some 92))), (1, .inl v)], [.inl (3 : Int32), .inl v, .inr (.inr (some (m + 3))), .inl x1], H)) (C := []) rfl trivial ?_
  refine mw_cIe (fun _ => rfl) (show mu_is H (some (m + 3)) 10 from (h.1.w (md_w1 h.2.1)).1) (gi_get_ok (d := (d + 1)) (H := H) h.1 (md_w1 h.2.1) v (j := 3) (by decide)) ?_
  refine mw_go mu_g183 (k := 3) (f1 := (35, [(2, .inl (1 : Int32)), (0, .inr (.inr (some 92))), (1, .inl v)], [.inr (.inr (mu_r H 92 2)), .inl (x1 - (rw_get H (m + 3) 11 (gi_sz H (m + 3)) v 3))], H)) (C := [mu_is H (some 92) 12]) rfl (show mu_is H (some 92) 12 from h.1.is rfl) ?_
  rw [h.2.2]
  refine mw_go mu_g183 (k := 4) (f1 := (41, [(2, .inl (1 : Int32)), (0, .inr (.inr (some 92))), (1, .inl v)], [.inr (.inr (mu_r H 92 2)), .inl (4 : Int32), .inl v, .inr (.inr (some m)), .inl (x1 - (rw_get H (m + 3) 11 (gi_sz H (m + 3)) v 3))], H)) (C := [mu_is H (some 92) 12]) rfl (show mu_is H (some 92) 12 from h.1.is rfl) ?_
  rw [h.2.2]
  refine mw_go mu_g183 (k := 1) (f1 := (44, [(2, .inl (1 : Int32)), (0, .inr (.inr (some 92))), (1, .inl v)], [.inr (.inr (mu_r H m 7)), .inl (4 : Int32), .inl v, .inr (.inr (some m)), .inl (x1 - (rw_get H (m + 3) 11 (gi_sz H (m + 3)) v 3))], H)) (C := [mu_is H (some m) 6]) rfl (show mu_is H (some m) 6 from (show mu_is H (some m) 6 from gi_im h.1 h.2.1)) ?_
  rw [(show mu_r H m 7 = some (m + 15) from (gi_mr h.1 h.2.1 (j := 7) (by decide)).trans (congrArg some (by omega)))]
  refine mw_cI (fun _ => rfl) (show mu_is H (some m) 6 from (show mu_is H (some m) 6 from gi_im h.1 h.2.1)) (md_stop (d := d) h.1 h.2.1 (md_w7 h.2.1) (c := 4) (by decide) v) (fun x3 H3 q3 => ?_)
  obtain ⟨rfl, hst3⟩ := q3
  refine mw_go mu_g183 (k := 3) (f1 := (52, [(2, .inl (1 : Int32)), (0, .inr (.inr (some 92))), (1, .inl v)], [.inr (.inr (mu_r H 92 2)), .inl ((x1 - (rw_get H (m + 3) 11 (gi_sz H (m + 3)) v 3)) + x3)], H)) (C := [mu_is H (some 92) 12]) rfl (show mu_is H (some 92) 12 from h.1.is rfl) ?_
  rw [h.2.2]
  refine mw_go mu_g183 (k := 1) (f1 := (55, [(2, .inl (1 : Int32)), (0, .inr (.inr (some 92))), (1, .inl v)], [.inr (.inr (mu_r H m 1)), .inl ((x1 - (rw_get H (m + 3) 11 (gi_sz H (m + 3)) v 3)) + x3)], H)) (C := [mu_is H (some m) 6]) rfl (show mu_is H (some m) 6 from (show mu_is H (some m) 6 from gi_im h.1 h.2.1)) ?_
  rw [(show mu_r H m 1 = some (m + 3) from (gi_mr h.1 h.2.1 (j := 1) (by decide)).trans (congrArg some (by omega)))]
  refine mw_go mu_g183 (k := 2) (f1 := (57, [(2, .inl (1 : Int32)), (0, .inr (.inr (some 92))), (1, .inl v)], [.inl (4 : Int32), .inl v, .inr (.inr (some (m + 3))), .inl ((x1 - (rw_get H (m + 3) 11 (gi_sz H (m + 3)) v 3)) + x3)], H)) (C := []) rfl trivial ?_
  refine mw_cIe (fun _ => rfl) (show mu_is H (some (m + 3)) 10 from (h.1.w (md_w1 h.2.1)).1) (gi_get_ok (d := (d + 1)) (H := H) h.1 (md_w1 h.2.1) v (j := 4) (by decide)) ?_
  refine mw_go mu_g183 (k := 3) (f1 := (65, [(2, .inl (1 : Int32)), (0, .inr (.inr (some 92))), (1, .inl v)], [.inr (.inr (mu_r H 92 2)), .inl (((x1 - (rw_get H (m + 3) 11 (gi_sz H (m + 3)) v 3)) + x3) - (rw_get H (m + 3) 11 (gi_sz H (m + 3)) v 4))], H)) (C := [mu_is H (some 92) 12]) rfl (show mu_is H (some 92) 12 from h.1.is rfl) ?_
  rw [h.2.2]
  refine mw_go mu_g183 (k := 4) (f1 := (71, [(2, .inl (1 : Int32)), (0, .inr (.inr (some 92))), (1, .inl v)], [.inr (.inr (mu_r H 92 2)), .inl (5 : Int32), .inl v, .inr (.inr (some m)), .inl (((x1 - (rw_get H (m + 3) 11 (gi_sz H (m + 3)) v 3)) + x3) - (rw_get H (m + 3) 11 (gi_sz H (m + 3)) v 4))], H)) (C := [mu_is H (some 92) 12]) rfl (show mu_is H (some 92) 12 from h.1.is rfl) ?_
  rw [h.2.2]
  refine mw_go mu_g183 (k := 1) (f1 := (74, [(2, .inl (1 : Int32)), (0, .inr (.inr (some 92))), (1, .inl v)], [.inr (.inr (mu_r H m 8)), .inl (5 : Int32), .inl v, .inr (.inr (some m)), .inl (((x1 - (rw_get H (m + 3) 11 (gi_sz H (m + 3)) v 3)) + x3) - (rw_get H (m + 3) 11 (gi_sz H (m + 3)) v 4))], H)) (C := [mu_is H (some m) 6]) rfl (show mu_is H (some m) 6 from (show mu_is H (some m) 6 from gi_im h.1 h.2.1)) ?_
  rw [(show mu_r H m 8 = some (m + 17) from (gi_mr h.1 h.2.1 (j := 8) (by decide)).trans (congrArg some (by omega)))]
  refine mw_cI (fun _ => rfl) (show mu_is H (some m) 6 from (show mu_is H (some m) 6 from gi_im h.1 h.2.1)) (md_stop (d := d) h.1 h.2.1 (md_w8 h.2.1) (c := 5) (by decide) v) (fun x5 H5 q5 => ?_)
  obtain ⟨rfl, hst5⟩ := q5
  refine mw_go mu_g183 (k := 3) (f1 := (82, [(2, .inl (1 : Int32)), (0, .inr (.inr (some 92))), (1, .inl v)], [.inr (.inr (mu_r H 92 2)), .inl ((((x1 - (rw_get H (m + 3) 11 (gi_sz H (m + 3)) v 3)) + x3) - (rw_get H (m + 3) 11 (gi_sz H (m + 3)) v 4)) + x5)], H)) (C := [mu_is H (some 92) 12]) rfl (show mu_is H (some 92) 12 from h.1.is rfl) ?_
  rw [h.2.2]
  refine mw_go mu_g183 (k := 1) (f1 := (85, [(2, .inl (1 : Int32)), (0, .inr (.inr (some 92))), (1, .inl v)], [.inr (.inr (mu_r H m 1)), .inl ((((x1 - (rw_get H (m + 3) 11 (gi_sz H (m + 3)) v 3)) + x3) - (rw_get H (m + 3) 11 (gi_sz H (m + 3)) v 4)) + x5)], H)) (C := [mu_is H (some m) 6]) rfl (show mu_is H (some m) 6 from (show mu_is H (some m) 6 from gi_im h.1 h.2.1)) ?_
  rw [(show mu_r H m 1 = some (m + 3) from (gi_mr h.1 h.2.1 (j := 1) (by decide)).trans (congrArg some (by omega)))]
  refine mw_go mu_g183 (k := 2) (f1 := (87, [(2, .inl (1 : Int32)), (0, .inr (.inr (some 92))), (1, .inl v)], [.inl (5 : Int32), .inl v, .inr (.inr (some (m + 3))), .inl ((((x1 - (rw_get H (m + 3) 11 (gi_sz H (m + 3)) v 3)) + x3) - (rw_get H (m + 3) 11 (gi_sz H (m + 3)) v 4)) + x5)], H)) (C := []) rfl trivial ?_
  refine mw_cIe (fun _ => rfl) (show mu_is H (some (m + 3)) 10 from (h.1.w (md_w1 h.2.1)).1) (gi_get_ok (d := (d + 1)) (H := H) h.1 (md_w1 h.2.1) v (j := 5) (by decide)) ?_
  refine mw_go mu_g183 (k := 4) (f1 := (96, [(3, .inl (((((x1 - (rw_get H (m + 3) 11 (gi_sz H (m + 3)) v 3)) + x3) - (rw_get H (m + 3) 11 (gi_sz H (m + 3)) v 4)) + x5) - (rw_get H (m + 3) 11 (gi_sz H (m + 3)) v 5))), (2, .inl (1 : Int32)), (0, .inr (.inr (some 92))), (1, .inl v)], [.inr (.inr (mu_r H 92 2))], H)) (C := [mu_is H (some 92) 12]) rfl (show mu_is H (some 92) 12 from h.1.is rfl) ?_
  rw [h.2.2]
  refine mw_go mu_g183 (k := 1) (f1 := (99, [(3, .inl (((((x1 - (rw_get H (m + 3) 11 (gi_sz H (m + 3)) v 3)) + x3) - (rw_get H (m + 3) 11 (gi_sz H (m + 3)) v 4)) + x5) - (rw_get H (m + 3) 11 (gi_sz H (m + 3)) v 5))), (2, .inl (1 : Int32)), (0, .inr (.inr (some 92))), (1, .inl v)], [.inr (.inr (mu_r H m 1))], H)) (C := [mu_is H (some m) 6]) rfl (show mu_is H (some m) 6 from (show mu_is H (some m) 6 from gi_im h.1 h.2.1)) ?_
  rw [(show mu_r H m 1 = some (m + 3) from (gi_mr h.1 h.2.1 (j := 1) (by decide)).trans (congrArg some (by omega)))]
  refine mw_go mu_g183 (k := 2) (f1 := (101, [(3, .inl (((((x1 - (rw_get H (m + 3) 11 (gi_sz H (m + 3)) v 3)) + x3) - (rw_get H (m + 3) 11 (gi_sz H (m + 3)) v 4)) + x5) - (rw_get H (m + 3) 11 (gi_sz H (m + 3)) v 5))), (2, .inl (1 : Int32)), (0, .inr (.inr (some 92))), (1, .inl v)], [.inl (2 : Int32), .inl v, .inr (.inr (some (m + 3)))], H)) (C := []) rfl trivial ?_
  refine mw_cIe (fun _ => rfl) (show mu_is H (some (m + 3)) 10 from (h.1.w (md_w1 h.2.1)).1) (gi_get_ok (d := (d + 1)) (H := H) h.1 (md_w1 h.2.1) v (j := 2) (by decide)) ?_
  refine mw_go mu_g183 (k := 1) (f1 := (106, [(4, .inl (rw_get H (m + 3) 11 (gi_sz H (m + 3)) v 2)), (3, .inl (((((x1 - (rw_get H (m + 3) 11 (gi_sz H (m + 3)) v 3)) + x3) - (rw_get H (m + 3) 11 (gi_sz H (m + 3)) v 4)) + x5) - (rw_get H (m + 3) 11 (gi_sz H (m + 3)) v 5))), (2, .inl (1 : Int32)), (0, .inr (.inr (some 92))), (1, .inl v)], [], H)) (C := []) rfl trivial ?_
  refine mw_sub (L' := [(2, .inl (1 : Int32)), (3, .inl (((((x1 - (rw_get H (m + 3) 11 (gi_sz H (m + 3)) v 3)) + x3) - (rw_get H (m + 3) 11 (gi_sz H (m + 3)) v 4)) + x5) - (rw_get H (m + 3) 11 (gi_sz H (m + 3)) v 5))), (4, .inl (rw_get H (m + 3) 11 (gi_sz H (m + 3)) v 2)), (0, .inr (.inr (some 92))), (1, .inl v)]) (by simp) ?_
  refine mw_down (α := Int32 × Int32 × Int32) (fun zs => (106, [(2, .inl zs.1), (3, .inl zs.2.1), (4, .inl zs.2.2), (0, .inr (.inr (some 92))), (1, .inl v)], [], H)) (fun zs => (2147483647 - zs.2.2.toInt).toNat) (fun zs => (True)) (fun zs hs ih => ?_) ((1 : Int32), (((((x1 - (rw_get H (m + 3) 11 (gi_sz H (m + 3)) v 3)) + x3) - (rw_get H (m + 3) 11 (gi_sz H (m + 3)) v 4)) + x5) - (rw_get H (m + 3) 11 (gi_sz H (m + 3)) v 5)), (rw_get H (m + 3) 11 (gi_sz H (m + 3)) v 2)) (show True from trivial)
  obtain ⟨x1, x2, y⟩ := zs
  have hT := hs
  have hT : True := hT
  show mu_W _ _ (106, [(2, .inl x1), (3, .inl x2), (4, .inl y), (0, .inr (.inr (some 92))), (1, .inl v)], [], H) _
  refine mw_go mu_g183 (k := 3) (f1 := (112, [(2, .inl x1), (3, .inl x2), (4, .inl y), (0, .inr (.inr (some 92))), (1, .inl v)], [.inr (.inr (mu_r H 92 2)), .inl y], H)) (C := [mu_is H (some 92) 12]) rfl (show mu_is H (some 92) 12 from h.1.is rfl) ?_
  rw [h.2.2]
  refine mw_go mu_g183 (k := 4) (f1 := (118, [(2, .inl x1), (3, .inl x2), (4, .inl y), (0, .inr (.inr (some 92))), (1, .inl v)], [.inr (.inr (mu_r H 92 2)), .inl (2 : Int32), .inl v, .inr (.inr (some m)), .inl y], H)) (C := [mu_is H (some 92) 12]) rfl (show mu_is H (some 92) 12 from h.1.is rfl) ?_
  rw [h.2.2]
  refine mw_go mu_g183 (k := 1) (f1 := (121, [(2, .inl x1), (3, .inl x2), (4, .inl y), (0, .inr (.inr (some 92))), (1, .inl v)], [.inr (.inr (mu_r H m 3)), .inl (2 : Int32), .inl v, .inr (.inr (some m)), .inl y], H)) (C := [mu_is H (some m) 6]) rfl (show mu_is H (some m) 6 from (show mu_is H (some m) 6 from gi_im h.1 h.2.1)) ?_
  rw [(show mu_r H m 3 = some (m + 7) from (gi_mr h.1 h.2.1 (j := 3) (by decide)).trans (congrArg some (by omega)))]
  refine mw_cI (fun _ => rfl) (show mu_is H (some m) 6 from (show mu_is H (some m) 6 from gi_im h.1 h.2.1)) (md_stop (d := d) h.1 h.2.1 (md_w3 h.2.1) (c := 2) (by decide) v) (fun x8 H8 q8 => ?_)
  obtain ⟨rfl, hst8⟩ := q8
  refine mw_if (P := y < x8) (a := 127) (b := 248) (fun _ => rfl) trivial (fun h9 => ?_) (fun h9 => ?_)
  · -- 127: y < x8
    have huph9 := i32_up h9
    refine mw_go mu_g183 (k := 3) (f1 := (134, [(3, .inl (x2 + 1)), (2, .inl x1), (4, .inl y), (0, .inr (.inr (some 92))), (1, .inl v)], [.inr (.inr (mu_r H 92 2))], H)) (C := [mu_is H (some 92) 12]) rfl (show mu_is H (some 92) 12 from h.1.is rfl) ?_
    rw [h.2.2]
    refine mw_go mu_g183 (k := 1) (f1 := (137, [(3, .inl (x2 + 1)), (2, .inl x1), (4, .inl y), (0, .inr (.inr (some 92))), (1, .inl v)], [.inr (.inr (mu_r H m 3))], H)) (C := [mu_is H (some m) 6]) rfl (show mu_is H (some m) 6 from (show mu_is H (some m) 6 from gi_im h.1 h.2.1)) ?_
    rw [(show mu_r H m 3 = some (m + 7) from (gi_mr h.1 h.2.1 (j := 3) (by decide)).trans (congrArg some (by omega)))]
    refine mw_go mu_g183 (k := 2) (f1 := (140, [(3, .inl (x2 + 1)), (2, .inl x1), (4, .inl y), (0, .inr (.inr (some 92))), (1, .inl v)], [.inl (1 : Int32), .inl y, .inr (.inr (some (m + 7)))], H)) (C := []) rfl trivial ?_
    refine mw_cIe (fun _ => rfl) (show mu_is H (some (m + 7)) 10 from (h.1.w (md_w3 h.2.1)).1) (gi_get_ok (d := (d + 1)) (H := H) h.1 (md_w3 h.2.1) y (j := 1) (by decide)) ?_
    refine mw_go mu_g183 (k := 1) (f1 := (144, [(3, .inl (x2 + 1)), (2, .inl x1), (4, .inl y), (0, .inr (.inr (some 92))), (1, .inl v)], [.inl (3 : Int32), .inl (rw_get H (m + 7) 6 (gi_sz H (m + 7)) y 1)], H)) (C := []) rfl trivial ?_
    refine mw_if (P := (rw_get H (m + 7) 6 (gi_sz H (m + 7)) y 1) = (3 : Int32)) (a := 147) (b := 242) (fun _ => rfl) trivial (fun h11 => ?_) (fun h11 => ?_)
    · -- 147: (rw_get H (m + 7) 6 (gi_sz H (m + 7)) y 1) = (3 : Int32)
      refine mw_go mu_g183 (k := 2) (f1 := (151, [(3, .inl (x2 + 1)), (2, .inl x1), (4, .inl y), (0, .inr (.inr (some 92))), (1, .inl v)], [.inr (.inr (mu_r H 92 2))], H)) (C := [mu_is H (some 92) 12]) rfl (show mu_is H (some 92) 12 from h.1.is rfl) ?_
      rw [h.2.2]
      refine mw_go mu_g183 (k := 1) (f1 := (154, [(3, .inl (x2 + 1)), (2, .inl x1), (4, .inl y), (0, .inr (.inr (some 92))), (1, .inl v)], [.inr (.inr (mu_r H m 3))], H)) (C := [mu_is H (some m) 6]) rfl (show mu_is H (some m) 6 from (show mu_is H (some m) 6 from gi_im h.1 h.2.1)) ?_
      rw [(show mu_r H m 3 = some (m + 7) from (gi_mr h.1 h.2.1 (j := 3) (by decide)).trans (congrArg some (by omega)))]
      refine mw_go mu_g183 (k := 2) (f1 := (157, [(3, .inl (x2 + 1)), (2, .inl x1), (4, .inl y), (0, .inr (.inr (some 92))), (1, .inl v)], [.inl (4 : Int32), .inl y, .inr (.inr (some (m + 7)))], H)) (C := []) rfl trivial ?_
      refine mw_cIe (fun _ => rfl) (show mu_is H (some (m + 7)) 10 from (h.1.w (md_w3 h.2.1)).1) (gi_get_ok (d := (d + 1)) (H := H) h.1 (md_w3 h.2.1) y (j := 4) (by decide)) ?_
      refine mw_go mu_g183 (k := 3) (f1 := (166, [(5, .inl (rw_get H (m + 7) 6 (gi_sz H (m + 7)) y 4)), (3, .inl (x2 + 1)), (2, .inl x1), (4, .inl y), (0, .inr (.inr (some 92))), (1, .inl v)], [.inr (.inr (mu_r H 92 2))], H)) (C := [mu_is H (some 92) 12]) rfl (show mu_is H (some 92) 12 from h.1.is rfl) ?_
      rw [h.2.2]
      refine mw_go mu_g183 (k := 1) (f1 := (169, [(5, .inl (rw_get H (m + 7) 6 (gi_sz H (m + 7)) y 4)), (3, .inl (x2 + 1)), (2, .inl x1), (4, .inl y), (0, .inr (.inr (some 92))), (1, .inl v)], [.inr (.inr (mu_r H m 1))], H)) (C := [mu_is H (some m) 6]) rfl (show mu_is H (some m) 6 from (show mu_is H (some m) 6 from gi_im h.1 h.2.1)) ?_
      rw [(show mu_r H m 1 = some (m + 3) from (gi_mr h.1 h.2.1 (j := 1) (by decide)).trans (congrArg some (by omega)))]
      refine mw_go mu_g183 (k := 2) (f1 := (173, [(5, .inl (rw_get H (m + 7) 6 (gi_sz H (m + 7)) y 4)), (3, .inl (x2 + 1)), (2, .inl x1), (4, .inl y), (0, .inr (.inr (some 92))), (1, .inl v)], [.inl (8 : Int32), .inl (rw_get H (m + 7) 6 (gi_sz H (m + 7)) y 4), .inr (.inr (some (m + 3)))], H)) (C := []) rfl trivial ?_
      refine mw_cIe (fun _ => rfl) (show mu_is H (some (m + 3)) 10 from (h.1.w (md_w1 h.2.1)).1) (gi_get_ok (d := (d + 1)) (H := H) h.1 (md_w1 h.2.1) (rw_get H (m + 7) 6 (gi_sz H (m + 7)) y 4) (j := 8) (by decide)) ?_
      refine mw_if (P := (rw_get H (m + 3) 11 (gi_sz H (m + 3)) (rw_get H (m + 7) 6 (gi_sz H (m + 7)) y 4) 8) = 0) (a := 179) (b := 181) (fun _ => rfl) trivial (fun h14 => ?_) (fun h14 => ?_)
      · -- 179: (rw_get H (m + 3) 11 (gi_sz H (m + 3)) (rw_get H (m + 7) 6 (gi_sz H (m + 7)) y 4) 8) = 0
        refine mw_go mu_g183 (k := 1) (f1 := (180, [(5, .inl (rw_get H (m + 7) 6 (gi_sz H (m + 7)) y 4)), (3, .inl (x2 + 1)), (2, .inl x1), (4, .inl y), (0, .inr (.inr (some 92))), (1, .inl v)], [.inl (0 : Int32)], H)) (C := []) rfl trivial ?_
        exact mw_of (fun _ => mu_ret rfl (Or.inl rfl) ⟨_, H, rfl, Or.inl rfl, h, (sq.refl m H), by omega⟩)
      · -- 181: not (rw_get H (m + 3) 11 (gi_sz H (m + 3)) (rw_get H (m + 7) 6 (gi_sz H (m + 7)) y 4) 8) = 0
        refine mw_go mu_g183 (k := 3) (f1 := (186, [(5, .inl (rw_get H (m + 7) 6 (gi_sz H (m + 7)) y 4)), (3, .inl (x2 + 1)), (2, .inl x1), (4, .inl y), (0, .inr (.inr (some 92))), (1, .inl v)], [.inr (.inr (mu_r H 92 2)), .inl x1], H)) (C := [mu_is H (some 92) 12]) rfl (show mu_is H (some 92) 12 from h.1.is rfl) ?_
        rw [h.2.2]
        refine mw_go mu_g183 (k := 1) (f1 := (189, [(5, .inl (rw_get H (m + 7) 6 (gi_sz H (m + 7)) y 4)), (3, .inl (x2 + 1)), (2, .inl x1), (4, .inl y), (0, .inr (.inr (some 92))), (1, .inl v)], [.inr (.inr (mu_r H m 1)), .inl x1], H)) (C := [mu_is H (some m) 6]) rfl (show mu_is H (some m) 6 from (show mu_is H (some m) 6 from gi_im h.1 h.2.1)) ?_
        rw [(show mu_r H m 1 = some (m + 3) from (gi_mr h.1 h.2.1 (j := 1) (by decide)).trans (congrArg some (by omega)))]
        refine mw_go mu_g183 (k := 2) (f1 := (193, [(5, .inl (rw_get H (m + 7) 6 (gi_sz H (m + 7)) y 4)), (3, .inl (x2 + 1)), (2, .inl x1), (4, .inl y), (0, .inr (.inr (some 92))), (1, .inl v)], [.inl (9 : Int32), .inl (rw_get H (m + 7) 6 (gi_sz H (m + 7)) y 4), .inr (.inr (some (m + 3))), .inl x1], H)) (C := []) rfl trivial ?_
        refine mw_cIe (fun _ => rfl) (show mu_is H (some (m + 3)) 10 from (h.1.w (md_w1 h.2.1)).1) (gi_get_ok (d := (d + 1)) (H := H) h.1 (md_w1 h.2.1) (rw_get H (m + 7) 6 (gi_sz H (m + 7)) y 4) (j := 9) (by decide)) ?_
        refine mw_go mu_g183 (k := 2) (f1 := (200, [(5, .inl (rw_get H (m + 7) 6 (gi_sz H (m + 7)) y 4)), (3, .inl (x2 + 1)), (2, .inl x1), (4, .inl y), (0, .inr (.inr (some 92))), (1, .inl v)], [.inl (201 : Int32), .inl (x1 + (rw_get H (m + 3) 11 (gi_sz H (m + 3)) (rw_get H (m + 7) 6 (gi_sz H (m + 7)) y 4) 9))], H)) (C := []) rfl trivial ?_
        refine mw_cIe (fun _ => rfl) trivial (mu_min_ok (d := (d + 1)) (x1 + (rw_get H (m + 3) 11 (gi_sz H (m + 3)) (rw_get H (m + 7) 6 (gi_sz H (m + 7)) y 4) 9)) (201 : Int32)) ?_
        refine mw_go mu_g183 (k := 4) (f1 := (209, [(2, .inl (mu_min (x1 + (rw_get H (m + 3) 11 (gi_sz H (m + 3)) (rw_get H (m + 7) 6 (gi_sz H (m + 7)) y 4) 9)) (201 : Int32))), (5, .inl (rw_get H (m + 7) 6 (gi_sz H (m + 7)) y 4)), (3, .inl (x2 + 1)), (4, .inl y), (0, .inr (.inr (some 92))), (1, .inl v)], [.inr (.inr (mu_r H 92 2)), .inl (x2 + 1)], H)) (C := [mu_is H (some 92) 12]) rfl (show mu_is H (some 92) 12 from h.1.is rfl) ?_
        rw [h.2.2]
        refine mw_go mu_g183 (k := 1) (f1 := (212, [(2, .inl (mu_min (x1 + (rw_get H (m + 3) 11 (gi_sz H (m + 3)) (rw_get H (m + 7) 6 (gi_sz H (m + 7)) y 4) 9)) (201 : Int32))), (5, .inl (rw_get H (m + 7) 6 (gi_sz H (m + 7)) y 4)), (3, .inl (x2 + 1)), (4, .inl y), (0, .inr (.inr (some 92))), (1, .inl v)], [.inr (.inr (mu_r H m 3)), .inl (x2 + 1)], H)) (C := [mu_is H (some m) 6]) rfl (show mu_is H (some m) 6 from (show mu_is H (some m) 6 from gi_im h.1 h.2.1)) ?_
        rw [(show mu_r H m 3 = some (m + 7) from (gi_mr h.1 h.2.1 (j := 3) (by decide)).trans (congrArg some (by omega)))]
        refine mw_go mu_g183 (k := 2) (f1 := (215, [(2, .inl (mu_min (x1 + (rw_get H (m + 3) 11 (gi_sz H (m + 3)) (rw_get H (m + 7) 6 (gi_sz H (m + 7)) y 4) 9)) (201 : Int32))), (5, .inl (rw_get H (m + 7) 6 (gi_sz H (m + 7)) y 4)), (3, .inl (x2 + 1)), (4, .inl y), (0, .inr (.inr (some 92))), (1, .inl v)], [.inl (3 : Int32), .inl y, .inr (.inr (some (m + 7))), .inl (x2 + 1)], H)) (C := []) rfl trivial ?_
        refine mw_cIe (fun _ => rfl) (show mu_is H (some (m + 7)) 10 from (h.1.w (md_w3 h.2.1)).1) (gi_get_ok (d := (d + 1)) (H := H) h.1 (md_w3 h.2.1) y (j := 3) (by decide)) ?_
        refine mw_go mu_g183 (k := 2) (f1 := (222, [(2, .inl (mu_min (x1 + (rw_get H (m + 3) 11 (gi_sz H (m + 3)) (rw_get H (m + 7) 6 (gi_sz H (m + 7)) y 4) 9)) (201 : Int32))), (5, .inl (rw_get H (m + 7) 6 (gi_sz H (m + 7)) y 4)), (3, .inl (x2 + 1)), (4, .inl y), (0, .inr (.inr (some 92))), (1, .inl v)], [.inr (.inr (mu_r H 92 2)), .inl (rw_get H (m + 7) 6 (gi_sz H (m + 7)) y 3), .inl (x2 + 1)], H)) (C := [mu_is H (some 92) 12]) rfl (show mu_is H (some 92) 12 from h.1.is rfl) ?_
        rw [h.2.2]
        refine mw_go mu_g183 (k := 1) (f1 := (225, [(2, .inl (mu_min (x1 + (rw_get H (m + 3) 11 (gi_sz H (m + 3)) (rw_get H (m + 7) 6 (gi_sz H (m + 7)) y 4) 9)) (201 : Int32))), (5, .inl (rw_get H (m + 7) 6 (gi_sz H (m + 7)) y 4)), (3, .inl (x2 + 1)), (4, .inl y), (0, .inr (.inr (some 92))), (1, .inl v)], [.inr (.inr (mu_r H m 1)), .inl (rw_get H (m + 7) 6 (gi_sz H (m + 7)) y 3), .inl (x2 + 1)], H)) (C := [mu_is H (some m) 6]) rfl (show mu_is H (some m) 6 from (show mu_is H (some m) 6 from gi_im h.1 h.2.1)) ?_
        rw [(show mu_r H m 1 = some (m + 3) from (gi_mr h.1 h.2.1 (j := 1) (by decide)).trans (congrArg some (by omega)))]
        refine mw_go mu_g183 (k := 2) (f1 := (229, [(2, .inl (mu_min (x1 + (rw_get H (m + 3) 11 (gi_sz H (m + 3)) (rw_get H (m + 7) 6 (gi_sz H (m + 7)) y 4) 9)) (201 : Int32))), (5, .inl (rw_get H (m + 7) 6 (gi_sz H (m + 7)) y 4)), (3, .inl (x2 + 1)), (4, .inl y), (0, .inr (.inr (some 92))), (1, .inl v)], [.inl (10 : Int32), .inl (rw_get H (m + 7) 6 (gi_sz H (m + 7)) y 4), .inr (.inr (some (m + 3))), .inl (rw_get H (m + 7) 6 (gi_sz H (m + 7)) y 3), .inl (x2 + 1)], H)) (C := []) rfl trivial ?_
        refine mw_cIe (fun _ => rfl) (show mu_is H (some (m + 3)) 10 from (h.1.w (md_w1 h.2.1)).1) (gi_get_ok (d := (d + 1)) (H := H) h.1 (md_w1 h.2.1) (rw_get H (m + 7) 6 (gi_sz H (m + 7)) y 4) (j := 10) (by decide)) ?_
        refine mw_go mu_g183 (k := 5) (f1 := (238, [(3, .inl ((x2 + 1) + ((rw_get H (m + 7) 6 (gi_sz H (m + 7)) y 3) + (rw_get H (m + 3) 11 (gi_sz H (m + 3)) (rw_get H (m + 7) 6 (gi_sz H (m + 7)) y 4) 10)))), (2, .inl (mu_min (x1 + (rw_get H (m + 3) 11 (gi_sz H (m + 3)) (rw_get H (m + 7) 6 (gi_sz H (m + 7)) y 4) 9)) (201 : Int32))), (5, .inl (rw_get H (m + 7) 6 (gi_sz H (m + 7)) y 4)), (4, .inl y), (0, .inr (.inr (some 92))), (1, .inl v)], [.inl (131072 : Int32), .inl ((x2 + 1) + ((rw_get H (m + 7) 6 (gi_sz H (m + 7)) y 3) + (rw_get H (m + 3) 11 (gi_sz H (m + 3)) (rw_get H (m + 7) 6 (gi_sz H (m + 7)) y 4) 10)))], H)) (C := []) rfl trivial ?_
        refine mw_cIe (fun _ => rfl) trivial (mu_min_ok (d := (d + 1)) ((x2 + 1) + ((rw_get H (m + 7) 6 (gi_sz H (m + 7)) y 3) + (rw_get H (m + 3) 11 (gi_sz H (m + 3)) (rw_get H (m + 7) 6 (gi_sz H (m + 7)) y 4) 10))) (131072 : Int32)) ?_
        refine mw_go mu_g183 (k := 3) (f1 := (106, [(4, .inl (y + 1)), (3, .inl (mu_min ((x2 + 1) + ((rw_get H (m + 7) 6 (gi_sz H (m + 7)) y 3) + (rw_get H (m + 3) 11 (gi_sz H (m + 3)) (rw_get H (m + 7) 6 (gi_sz H (m + 7)) y 4) 10))) (131072 : Int32))), (2, .inl (mu_min (x1 + (rw_get H (m + 3) 11 (gi_sz H (m + 3)) (rw_get H (m + 7) 6 (gi_sz H (m + 7)) y 4) 9)) (201 : Int32))), (5, .inl (rw_get H (m + 7) 6 (gi_sz H (m + 7)) y 4)), (0, .inr (.inr (some 92))), (1, .inl v)], [], H)) (C := []) rfl trivial ?_
        exact mw_sub (by simp) (ih ((mu_min (x1 + (rw_get H (m + 3) 11 (gi_sz H (m + 3)) (rw_get H (m + 7) 6 (gi_sz H (m + 7)) y 4) 9)) (201 : Int32)), (mu_min ((x2 + 1) + ((rw_get H (m + 7) 6 (gi_sz H (m + 7)) y 3) + (rw_get H (m + 3) 11 (gi_sz H (m + 3)) (rw_get H (m + 7) 6 (gi_sz H (m + 7)) y 4) 10))) (131072 : Int32)), (y + 1)) (show True from trivial) (by show (2147483647 - (y + 1).toInt).toNat < (2147483647 - y.toInt).toNat; omega))
    · -- 242: not (rw_get H (m + 7) 6 (gi_sz H (m + 7)) y 1) = (3 : Int32)
      refine mw_go mu_g183 (k := 2) (f1 := (106, [(4, .inl (y + 1)), (3, .inl (x2 + 1)), (2, .inl x1), (0, .inr (.inr (some 92))), (1, .inl v)], [], H)) (C := []) rfl trivial ?_
      exact mw_sub (by simp) (ih (x1, (x2 + 1), (y + 1)) (show True from trivial) (by show (2147483647 - (y + 1).toInt).toNat < (2147483647 - y.toInt).toNat; omega))
  · -- 248: not y < x8
    refine mw_go mu_g183 (k := 2) (f1 := (252, [(2, .inl x1), (3, .inl x2), (4, .inl y), (0, .inr (.inr (some 92))), (1, .inl v)], [.inr (.inr (mu_r H 92 2))], H)) (C := [mu_is H (some 92) 12]) rfl (show mu_is H (some 92) 12 from h.1.is rfl) ?_
    rw [h.2.2]
    refine mw_go mu_g183 (k := 1) (f1 := (255, [(2, .inl x1), (3, .inl x2), (4, .inl y), (0, .inr (.inr (some 92))), (1, .inl v)], [.inr (.inr (mu_r H m 1))], H)) (C := [mu_is H (some m) 6]) rfl (show mu_is H (some m) 6 from (show mu_is H (some m) 6 from gi_im h.1 h.2.1)) ?_
    rw [(show mu_r H m 1 = some (m + 3) from (gi_mr h.1 h.2.1 (j := 1) (by decide)).trans (congrArg some (by omega)))]
    refine mw_go mu_g183 (k := 3) (f1 := (259, [(2, .inl x1), (3, .inl x2), (4, .inl y), (0, .inr (.inr (some 92))), (1, .inl v)], [.inl (1 : Int32), .inl (8 : Int32), .inl v, .inr (.inr (some (m + 3)))], H)) (C := []) rfl trivial ?_
    refine mw_cV (fun _ => rfl) (show mu_is H (some (m + 3)) 10 from (h.1.w (md_w1 h.2.1)).1) (gi_set_ok (d := (d + 1)) h.1 (md_w1 h.2.1) v (1 : Int32) (j := 8) (by decide)) (fun H20 q20 => ?_)
    obtain ⟨hp20, qt20, qz20⟩ := h.set (j := 1) (c := 8) (r := (m + 3)) (row := v) (v := (1 : Int32)) (by decide) (by omega) (by decide) rfl
    rw [show rw_set H (m + 3) (ps_W 1) (gi_sz H (m + 3)) v 8 (1 : Int32) = H20 from q20.symm] at hp20 qt20 qz20
    have ht20 := (sq.refl m H).trans qt20
    refine mw_go mu_g183 (k := 2) (f1 := (266, [(2, .inl x1), (3, .inl x2), (4, .inl y), (0, .inr (.inr (some 92))), (1, .inl v)], [.inr (.inr (mu_r H20 92 2))], H20)) (C := [mu_is H20 (some 92) 12]) rfl (show mu_is H20 (some 92) 12 from hp20.1.is rfl) ?_
    rw [hp20.2.2]
    refine mw_go mu_g183 (k := 1) (f1 := (269, [(2, .inl x1), (3, .inl x2), (4, .inl y), (0, .inr (.inr (some 92))), (1, .inl v)], [.inr (.inr (mu_r H20 m 1))], H20)) (C := [mu_is H20 (some m) 6]) rfl (show mu_is H20 (some m) 6 from (show mu_is H20 (some m) 6 from gi_im hp20.1 hp20.2.1)) ?_
    rw [(show mu_r H20 m 1 = some (m + 3) from (gi_mr hp20.1 hp20.2.1 (j := 1) (by decide)).trans (congrArg some (by omega)))]
    refine mw_go mu_g183 (k := 3) (f1 := (273, [(2, .inl x1), (3, .inl x2), (4, .inl y), (0, .inr (.inr (some 92))), (1, .inl v)], [.inl x1, .inl (9 : Int32), .inl v, .inr (.inr (some (m + 3)))], H20)) (C := []) rfl trivial ?_
    refine mw_cV (fun _ => rfl) (show mu_is H20 (some (m + 3)) 10 from (hp20.1.w (md_w1 hp20.2.1)).1) (gi_set_ok (d := (d + 1)) hp20.1 (md_w1 hp20.2.1) v x1 (j := 9) (by decide)) (fun H21 q21 => ?_)
    obtain ⟨hp21, qt21, qz21⟩ := hp20.set (j := 1) (c := 9) (r := (m + 3)) (row := v) (v := x1) (by decide) (by omega) (by decide) rfl
    rw [show rw_set H20 (m + 3) (ps_W 1) (gi_sz H20 (m + 3)) v 9 x1 = H21 from q21.symm] at hp21 qt21 qz21
    have ht21 := ht20.trans qt21
    refine mw_go mu_g183 (k := 2) (f1 := (280, [(2, .inl x1), (3, .inl x2), (4, .inl y), (0, .inr (.inr (some 92))), (1, .inl v)], [.inr (.inr (mu_r H21 92 2))], H21)) (C := [mu_is H21 (some 92) 12]) rfl (show mu_is H21 (some 92) 12 from hp21.1.is rfl) ?_
    rw [hp21.2.2]
    refine mw_go mu_g183 (k := 1) (f1 := (283, [(2, .inl x1), (3, .inl x2), (4, .inl y), (0, .inr (.inr (some 92))), (1, .inl v)], [.inr (.inr (mu_r H21 m 1))], H21)) (C := [mu_is H21 (some m) 6]) rfl (show mu_is H21 (some m) 6 from (show mu_is H21 (some m) 6 from gi_im hp21.1 hp21.2.1)) ?_
    rw [(show mu_r H21 m 1 = some (m + 3) from (gi_mr hp21.1 hp21.2.1 (j := 1) (by decide)).trans (congrArg some (by omega)))]
    refine mw_go mu_g183 (k := 3) (f1 := (287, [(2, .inl x1), (3, .inl x2), (4, .inl y), (0, .inr (.inr (some 92))), (1, .inl v)], [.inl x2, .inl (10 : Int32), .inl v, .inr (.inr (some (m + 3)))], H21)) (C := []) rfl trivial ?_
    refine mw_cV (fun _ => rfl) (show mu_is H21 (some (m + 3)) 10 from (hp21.1.w (md_w1 hp21.2.1)).1) (gi_set_ok (d := (d + 1)) hp21.1 (md_w1 hp21.2.1) v x2 (j := 10) (by decide)) (fun H22 q22 => ?_)
    obtain ⟨hp22, qt22, qz22⟩ := hp21.set (j := 1) (c := 10) (r := (m + 3)) (row := v) (v := x2) (by decide) (by omega) (by decide) rfl
    rw [show rw_set H21 (m + 3) (ps_W 1) (gi_sz H21 (m + 3)) v 10 x2 = H22 from q22.symm] at hp22 qt22 qz22
    have ht22 := ht21.trans qt22
    refine mw_go mu_g183 (k := 1) (f1 := (291, [(2, .inl x1), (3, .inl x2), (4, .inl y), (0, .inr (.inr (some 92))), (1, .inl v)], [.inl (1 : Int32)], H22)) (C := []) rfl trivial ?_
    exact mw_of (fun _ => mu_ret rfl (Or.inr rfl) ⟨_, H22, rfl, Or.inr rfl, hp22, ht22, by omega⟩)
/-- PathProver$Sound.endsSomewhere()Z -/
abbrev mu_m182 : ev_M := (4, (some .boolean), [], ev_b182)
theorem mu_g182 : mu_good mu_m182 := mu_goodk ev_k182
theorem so_ends (h : sd m H) : mu_TI (mu_D (d + 4)) 182 [.inr (.inr (some 92))] H (fun x H1 => (x = 0 ∨ x = 1) ∧ sd m H1 ∧ sq m H H1 ∧ gi_sz H1 93 = gi_sz H 93) := by
  have hm := h.2.1
  refine mu_meth (M := mu_m182) rfl rfl ?_
  refine mw_ht (mu_fn_of (show [0].Nodup by decide)) ?_
  refine mw_go mu_g182 (k := 4) (f1 := (4, [(2, .inl (0 : Int32)), (1, .inl (0 : Int32)), (0, .inr (.inr (some 92)))], [], H)) (C := []) rfl trivial ?_
  refine mw_sub (L' := [(1, .inl (0 : Int32)), (2, .inl (0 : Int32)), (0, .inr (.inr (some 92)))]) (by simp) ?_
  refine mw_down (α := Int32 × Int32 × mu_H) (fun zs => (4, [(1, .inl zs.1), (2, .inl zs.2.1), (0, .inr (.inr (some 92)))], [], zs.2.2)) (fun zs => (2147483647 - zs.2.1.toInt).toNat) (fun zs => sd m zs.2.2 ∧ sq m H zs.2.2 ∧ gi_sz zs.2.2 93 = gi_sz H 93) (fun zs hz iha => ?_) ((0 : Int32), (0 : Int32), H) ⟨h, (sq.refl m H), (show gi_sz H 93 = gi_sz H 93 by omega)⟩
  obtain ⟨x, y, Hsa⟩ := zs
  obtain ⟨hpa, hta, hza⟩ := hz
  have hpa : sd m Hsa := hpa
  have hta : sq m H Hsa := hta
  have hza : gi_sz Hsa 93 = gi_sz H 93 := hza
  show mu_W _ _ (4, [(1, .inl x), (2, .inl y), (0, .inr (.inr (some 92)))], [], Hsa) _
  refine mw_go mu_g182 (k := 3) (f1 := (9, [(1, .inl x), (2, .inl y), (0, .inr (.inr (some 92)))], [.inr (.inr (mu_r Hsa 92 2)), .inl y], Hsa)) (C := [mu_is Hsa (some 92) 12]) rfl (show mu_is Hsa (some 92) 12 from hpa.1.is rfl) ?_
  rw [hpa.2.2]
  refine mw_go mu_g182 (k := 1) (f1 := (12, [(1, .inl x), (2, .inl y), (0, .inr (.inr (some 92)))], [.inr (.inr (mu_r Hsa m 1)), .inl y], Hsa)) (C := [mu_is Hsa (some m) 6]) rfl (show mu_is Hsa (some m) 6 from (show mu_is Hsa (some m) 6 from gi_im hpa.1 hpa.2.1)) ?_
  rw [(show mu_r Hsa m 1 = some (m + 3) from (gi_mr hpa.1 hpa.2.1 (j := 1) (by decide)).trans (congrArg some (by omega)))]
  refine mw_go mu_g182 (k := 1) (f1 := (15, [(1, .inl x), (2, .inl y), (0, .inr (.inr (some 92)))], [.inl (mu_i Hsa (m + 3) 2), .inl y], Hsa)) (C := [mu_is Hsa (some (m + 3)) 10]) rfl (show mu_is Hsa (some (m + 3)) 10 from (hpa.1.w (md_w1 hpa.2.1)).1) ?_
  refine mw_if (P := y < (mu_i Hsa (m + 3) 2)) (a := 18) (b := 87) (fun _ => rfl) trivial (fun h1 => ?_) (fun h1 => ?_)
  · -- 18: y < (mu_i Hsa (m + 3) 2)
    have huph1 := i32_up h1
    refine mw_go mu_g182 (k := 3) (f1 := (23, [(1, .inl x), (2, .inl y), (0, .inr (.inr (some 92)))], [.inr (.inr (mu_r Hsa 92 2)), .inl x], Hsa)) (C := [mu_is Hsa (some 92) 12]) rfl (show mu_is Hsa (some 92) 12 from hpa.1.is rfl) ?_
    rw [hpa.2.2]
    refine mw_go mu_g182 (k := 1) (f1 := (26, [(1, .inl x), (2, .inl y), (0, .inr (.inr (some 92)))], [.inr (.inr (mu_r Hsa m 1)), .inl x], Hsa)) (C := [mu_is Hsa (some m) 6]) rfl (show mu_is Hsa (some m) 6 from (show mu_is Hsa (some m) 6 from gi_im hpa.1 hpa.2.1)) ?_
    rw [(show mu_r Hsa m 1 = some (m + 3) from (gi_mr hpa.1 hpa.2.1 (j := 1) (by decide)).trans (congrArg some (by omega)))]
    refine mw_go mu_g182 (k := 1) (f1 := (29, [(1, .inl x), (2, .inl y), (0, .inr (.inr (some 92)))], [.inl (mu_i Hsa (m + 3) 2), .inl x], Hsa)) (C := [mu_is Hsa (some (m + 3)) 10]) rfl (show mu_is Hsa (some (m + 3)) 10 from (hpa.1.w (md_w1 hpa.2.1)).1) ?_
    refine mw_if (P := x < (mu_i Hsa (m + 3) 2)) (a := 32) (b := 87) (fun _ => rfl) trivial (fun h2 => ?_) (fun h2 => ?_)
    · -- 32: x < (mu_i Hsa (m + 3) 2)
      refine mw_go mu_g182 (k := 2) (f1 := (34, [(3, .inl (0 : Int32)), (1, .inl x), (2, .inl y), (0, .inr (.inr (some 92)))], [], Hsa)) (C := []) rfl trivial ?_
      refine mw_sub (L' := [(1, .inl x), (3, .inl (0 : Int32)), (0, .inr (.inr (some 92))), (2, .inl y)]) (by simp) ?_
      refine mw_down (α := Int32 × Int32 × mu_H) (fun zs => (34, [(1, .inl zs.1), (3, .inl zs.2.1), (0, .inr (.inr (some 92))), (2, .inl y)], [], zs.2.2)) (fun zs => (2147483647 - zs.2.1.toInt).toNat) (fun zs => sd m zs.2.2 ∧ sq m H zs.2.2 ∧ gi_sz zs.2.2 93 = gi_sz H 93) (fun zs hz ihb => ?_) (x, (0 : Int32), Hsa) ⟨hpa, hta, (show gi_sz Hsa 93 = gi_sz H 93 by omega)⟩
      obtain ⟨x3, z, Hsb⟩ := zs
      obtain ⟨hpb, htb, hzb⟩ := hz
      have hpb : sd m Hsb := hpb
      have htb : sq m H Hsb := htb
      have hzb : gi_sz Hsb 93 = gi_sz H 93 := hzb
      show mu_W _ _ (34, [(1, .inl x3), (3, .inl z), (0, .inr (.inr (some 92))), (2, .inl y)], [], Hsb) _
      refine mw_go mu_g182 (k := 3) (f1 := (39, [(1, .inl x3), (3, .inl z), (0, .inr (.inr (some 92))), (2, .inl y)], [.inr (.inr (mu_r Hsb 92 2)), .inl z], Hsb)) (C := [mu_is Hsb (some 92) 12]) rfl (show mu_is Hsb (some 92) 12 from hpb.1.is rfl) ?_
      rw [hpb.2.2]
      refine mw_go mu_g182 (k := 1) (f1 := (42, [(1, .inl x3), (3, .inl z), (0, .inr (.inr (some 92))), (2, .inl y)], [.inr (.inr (mu_r Hsb m 1)), .inl z], Hsb)) (C := [mu_is Hsb (some m) 6]) rfl (show mu_is Hsb (some m) 6 from (show mu_is Hsb (some m) 6 from gi_im hpb.1 hpb.2.1)) ?_
      rw [(show mu_r Hsb m 1 = some (m + 3) from (gi_mr hpb.1 hpb.2.1 (j := 1) (by decide)).trans (congrArg some (by omega)))]
      refine mw_go mu_g182 (k := 1) (f1 := (45, [(1, .inl x3), (3, .inl z), (0, .inr (.inr (some 92))), (2, .inl y)], [.inl (mu_i Hsb (m + 3) 2), .inl z], Hsb)) (C := [mu_is Hsb (some (m + 3)) 10]) rfl (show mu_is Hsb (some (m + 3)) 10 from (hpb.1.w (md_w1 hpb.2.1)).1) ?_
      refine mw_if (P := z < (mu_i Hsb (m + 3) 2)) (a := 48) (b := 81) (fun _ => rfl) trivial (fun h3 => ?_) (fun h3 => ?_)
      · -- 48: z < (mu_i Hsb (m + 3) 2)
        have huph3 := i32_up h3
        refine mw_go mu_g182 (k := 2) (f1 := (52, [(1, .inl x3), (3, .inl z), (0, .inr (.inr (some 92))), (2, .inl y)], [.inr (.inr (mu_r Hsb 92 2))], Hsb)) (C := [mu_is Hsb (some 92) 12]) rfl (show mu_is Hsb (some 92) 12 from hpb.1.is rfl) ?_
        rw [hpb.2.2]
        refine mw_go mu_g182 (k := 1) (f1 := (55, [(1, .inl x3), (3, .inl z), (0, .inr (.inr (some 92))), (2, .inl y)], [.inr (.inr (mu_r Hsb m 1))], Hsb)) (C := [mu_is Hsb (some m) 6]) rfl (show mu_is Hsb (some m) 6 from (show mu_is Hsb (some m) 6 from gi_im hpb.1 hpb.2.1)) ?_
        rw [(show mu_r Hsb m 1 = some (m + 3) from (gi_mr hpb.1 hpb.2.1 (j := 1) (by decide)).trans (congrArg some (by omega)))]
        refine mw_go mu_g182 (k := 2) (f1 := (58, [(1, .inl x3), (3, .inl z), (0, .inr (.inr (some 92))), (2, .inl y)], [.inl (8 : Int32), .inl z, .inr (.inr (some (m + 3)))], Hsb)) (C := []) rfl trivial ?_
        refine mw_cIe (fun _ => rfl) (show mu_is Hsb (some (m + 3)) 10 from (hpb.1.w (md_w1 hpb.2.1)).1) (gi_get_ok (d := (d + 2)) (H := Hsb) hpb.1 (md_w1 hpb.2.1) z (j := 8) (by decide)) ?_
        refine mw_if (P := (rw_get Hsb (m + 3) 11 (gi_sz Hsb (m + 3)) z 8) = 0) (a := 64) (b := 75) (fun _ => rfl) trivial (fun h5 => ?_) (fun h5 => ?_)
        · -- 64: (rw_get Hsb (m + 3) 11 (gi_sz Hsb (m + 3)) z 8) = 0
          refine mw_go mu_g182 (k := 2) (f1 := (66, [(1, .inl x3), (3, .inl z), (0, .inr (.inr (some 92))), (2, .inl y)], [.inl z, .inr (.inr (some 92))], Hsb)) (C := []) rfl trivial ?_
          refine mw_cI (fun _ => rfl) (show mu_is Hsb (some 92) 12 from hpb.1.is rfl) (so_reckon (d := d) hpb z) (fun x6 H6 q6 => ?_)
          obtain ⟨qx6, hp6, qt6, qz6⟩ := q6; rcases qx6 with rfl | rfl
          · -- (0 : Int32)
            have ht6 := htb.trans qt6
            refine mw_if (P := (0 : Int32) = 0) (a := 75) (b := 72) (fun _ => rfl) trivial (fun h7 => ?_) (fun h7 => absurd (by decide) h7)
            refine mw_go mu_g182 (k := 2) (f1 := (34, [(3, .inl (z + 1)), (1, .inl x3), (0, .inr (.inr (some 92))), (2, .inl y)], [], H6)) (C := []) rfl trivial ?_
            exact mw_sub (by simp) (ihb (x3, (z + 1), H6) ⟨hp6, ht6, (show gi_sz H6 93 = gi_sz H 93 by omega)⟩ (by show (2147483647 - (z + 1).toInt).toNat < (2147483647 - z.toInt).toNat; omega))
          · -- (1 : Int32)
            have ht6 := htb.trans qt6
            refine mw_if (P := (1 : Int32) = 0) (a := 75) (b := 72) (fun _ => rfl) trivial (fun h8 => absurd h8 (by decide)) (fun h8 => ?_)
            refine mw_go mu_g182 (k := 3) (f1 := (34, [(3, .inl (z + 1)), (1, .inl (x3 + 1)), (0, .inr (.inr (some 92))), (2, .inl y)], [], H6)) (C := []) rfl trivial ?_
            exact mw_sub (by simp) (ihb ((x3 + 1), (z + 1), H6) ⟨hp6, ht6, (show gi_sz H6 93 = gi_sz H 93 by omega)⟩ (by show (2147483647 - (z + 1).toInt).toNat < (2147483647 - z.toInt).toNat; omega))
        · -- 75: not (rw_get Hsb (m + 3) 11 (gi_sz Hsb (m + 3)) z 8) = 0
          refine mw_go mu_g182 (k := 2) (f1 := (34, [(3, .inl (z + 1)), (1, .inl x3), (0, .inr (.inr (some 92))), (2, .inl y)], [], Hsb)) (C := []) rfl trivial ?_
          exact mw_sub (by simp) (ihb (x3, (z + 1), Hsb) ⟨hpb, htb, (show gi_sz Hsb 93 = gi_sz H 93 by omega)⟩ (by show (2147483647 - (z + 1).toInt).toNat < (2147483647 - z.toInt).toNat; omega))
      · -- 81: not z < (mu_i Hsb (m + 3) 2)
        refine mw_go mu_g182 (k := 2) (f1 := (4, [(2, .inl (y + 1)), (1, .inl x3), (3, .inl z), (0, .inr (.inr (some 92)))], [], Hsb)) (C := []) rfl trivial ?_
        exact mw_sub (by simp) (iha (x3, (y + 1), Hsb) ⟨hpb, htb, (show gi_sz Hsb 93 = gi_sz H 93 by omega)⟩ (by show (2147483647 - (y + 1).toInt).toNat < (2147483647 - y.toInt).toNat; omega))
    · -- 87: not x < (mu_i Hsa (m + 3) 2)
      refine mw_go mu_g182 (k := 3) (f1 := (92, [(1, .inl x), (2, .inl y), (0, .inr (.inr (some 92)))], [.inr (.inr (mu_r Hsa 92 2)), .inl x], Hsa)) (C := [mu_is Hsa (some 92) 12]) rfl (show mu_is Hsa (some 92) 12 from hpa.1.is rfl) ?_
      rw [hpa.2.2]
      refine mw_go mu_g182 (k := 1) (f1 := (95, [(1, .inl x), (2, .inl y), (0, .inr (.inr (some 92)))], [.inr (.inr (mu_r Hsa m 1)), .inl x], Hsa)) (C := [mu_is Hsa (some m) 6]) rfl (show mu_is Hsa (some m) 6 from (show mu_is Hsa (some m) 6 from gi_im hpa.1 hpa.2.1)) ?_
      rw [(show mu_r Hsa m 1 = some (m + 3) from (gi_mr hpa.1 hpa.2.1 (j := 1) (by decide)).trans (congrArg some (by omega)))]
      refine mw_go mu_g182 (k := 1) (f1 := (98, [(1, .inl x), (2, .inl y), (0, .inr (.inr (some 92)))], [.inl (mu_i Hsa (m + 3) 2), .inl x], Hsa)) (C := [mu_is Hsa (some (m + 3)) 10]) rfl (show mu_is Hsa (some (m + 3)) 10 from (hpa.1.w (md_w1 hpa.2.1)).1) ?_
      refine mw_if (P := x = (mu_i Hsa (m + 3) 2)) (a := 101) (b := 105) (fun _ => rfl) trivial (fun h9 => ?_) (fun h9 => ?_)
      · -- 101: x = (mu_i Hsa (m + 3) 2)
        refine mw_go mu_g182 (k := 2) (f1 := (106, [(1, .inl x), (2, .inl y), (0, .inr (.inr (some 92)))], [.inl (1 : Int32)], Hsa)) (C := []) rfl trivial ?_
        exact mw_of (fun _ => mu_ret rfl (Or.inr rfl) ⟨_, Hsa, rfl, Or.inr rfl, hpa, hta, by omega⟩)
      · -- 105: not x = (mu_i Hsa (m + 3) 2)
        refine mw_go mu_g182 (k := 1) (f1 := (106, [(1, .inl x), (2, .inl y), (0, .inr (.inr (some 92)))], [.inl (0 : Int32)], Hsa)) (C := []) rfl trivial ?_
        exact mw_of (fun _ => mu_ret rfl (Or.inl rfl) ⟨_, Hsa, rfl, Or.inl rfl, hpa, hta, by omega⟩)
  · -- 87: not y < (mu_i Hsa (m + 3) 2)
    refine mw_go mu_g182 (k := 3) (f1 := (92, [(1, .inl x), (2, .inl y), (0, .inr (.inr (some 92)))], [.inr (.inr (mu_r Hsa 92 2)), .inl x], Hsa)) (C := [mu_is Hsa (some 92) 12]) rfl (show mu_is Hsa (some 92) 12 from hpa.1.is rfl) ?_
    rw [hpa.2.2]
    refine mw_go mu_g182 (k := 1) (f1 := (95, [(1, .inl x), (2, .inl y), (0, .inr (.inr (some 92)))], [.inr (.inr (mu_r Hsa m 1)), .inl x], Hsa)) (C := [mu_is Hsa (some m) 6]) rfl (show mu_is Hsa (some m) 6 from (show mu_is Hsa (some m) 6 from gi_im hpa.1 hpa.2.1)) ?_
    rw [(show mu_r Hsa m 1 = some (m + 3) from (gi_mr hpa.1 hpa.2.1 (j := 1) (by decide)).trans (congrArg some (by omega)))]
    refine mw_go mu_g182 (k := 1) (f1 := (98, [(1, .inl x), (2, .inl y), (0, .inr (.inr (some 92)))], [.inl (mu_i Hsa (m + 3) 2), .inl x], Hsa)) (C := [mu_is Hsa (some (m + 3)) 10]) rfl (show mu_is Hsa (some (m + 3)) 10 from (hpa.1.w (md_w1 hpa.2.1)).1) ?_
    refine mw_if (P := x = (mu_i Hsa (m + 3) 2)) (a := 101) (b := 105) (fun _ => rfl) trivial (fun h10 => ?_) (fun h10 => ?_)
    · -- 101: x = (mu_i Hsa (m + 3) 2)
      refine mw_go mu_g182 (k := 2) (f1 := (106, [(1, .inl x), (2, .inl y), (0, .inr (.inr (some 92)))], [.inl (1 : Int32)], Hsa)) (C := []) rfl trivial ?_
      exact mw_of (fun _ => mu_ret rfl (Or.inr rfl) ⟨_, Hsa, rfl, Or.inr rfl, hpa, hta, by omega⟩)
    · -- 105: not x = (mu_i Hsa (m + 3) 2)
      refine mw_go mu_g182 (k := 1) (f1 := (106, [(1, .inl x), (2, .inl y), (0, .inr (.inr (some 92)))], [.inl (0 : Int32)], Hsa)) (C := []) rfl trivial ?_
      exact mw_of (fun _ => mu_ret rfl (Or.inl rfl) ⟨_, Hsa, rfl, Or.inl rfl, hpa, hta, by omega⟩)
/-- PathProver$Sound.isKnown(II)Z -/
abbrev mu_m173 : ev_M := (9, (some .boolean), [], ev_b173)
theorem mu_g173 : mu_good mu_m173 := mu_goodk ev_k173
theorem so_isKnown (h : sd m H) (v w : Int32) : mu_TI (mu_D (d + 3)) 173 [.inr (.inr (some 92)), .inl v, .inl w] H (fun x H1 => (x = 0 ∨ x = 1) ∧ sd m H1 ∧ sq m H H1 ∧ gi_sz H1 93 = gi_sz H 93) := by
  have hm := h.2.1
  refine mu_meth (M := mu_m173) rfl rfl ?_
  refine mw_ht (mu_fn_of (show [0, 1, 2].Nodup by decide)) ?_
  refine mw_go mu_g173 (k := 4) (f1 := (6, [(3, .inl v), (0, .inr (.inr (some 92))), (1, .inl v), (2, .inl w)], [.inr (.inr (mu_r H 92 2))], H)) (C := [mu_is H (some 92) 12]) rfl (show mu_is H (some 92) 12 from h.1.is rfl) ?_
  rw [h.2.2]
  refine mw_go mu_g173 (k := 1) (f1 := (9, [(3, .inl v), (0, .inr (.inr (some 92))), (1, .inl v), (2, .inl w)], [.inr (.inr (mu_r H m 9))], H)) (C := [mu_is H (some m) 6]) rfl (show mu_is H (some m) 6 from (show mu_is H (some m) 6 from gi_im h.1 h.2.1)) ?_
  rw [(show mu_r H m 9 = some (m + 19) from (gi_mr h.1 h.2.1 (j := 9) (by decide)).trans (congrArg some (by omega)))]
  refine mw_go mu_g173 (k := 2) (f1 := (11, [(3, .inl v), (0, .inr (.inr (some 92))), (1, .inl v), (2, .inl w)], [.inl (0 : Int32), .inl w, .inr (.inr (some (m + 19)))], H)) (C := []) rfl trivial ?_
  refine mw_cIe (fun _ => rfl) (show mu_is H (some (m + 19)) 10 from (h.1.w (md_w9 h.2.1)).1) (gi_get_ok (d := (d + 1)) (H := H) h.1 (md_w9 h.2.1) w (j := 0) (by decide)) ?_
  refine mw_go mu_g173 (k := 3) (f1 := (20, [(4, .inl (rw_get H (m + 19) 4 (gi_sz H (m + 19)) w 0)), (3, .inl v), (0, .inr (.inr (some 92))), (1, .inl v), (2, .inl w)], [.inr (.inr (mu_r H 92 2))], H)) (C := [mu_is H (some 92) 12]) rfl (show mu_is H (some 92) 12 from h.1.is rfl) ?_
  rw [h.2.2]
  refine mw_go mu_g173 (k := 1) (f1 := (23, [(4, .inl (rw_get H (m + 19) 4 (gi_sz H (m + 19)) w 0)), (3, .inl v), (0, .inr (.inr (some 92))), (1, .inl v), (2, .inl w)], [.inr (.inr (mu_r H m 9))], H)) (C := [mu_is H (some m) 6]) rfl (show mu_is H (some m) 6 from (show mu_is H (some m) 6 from gi_im h.1 h.2.1)) ?_
  rw [(show mu_r H m 9 = some (m + 19) from (gi_mr h.1 h.2.1 (j := 9) (by decide)).trans (congrArg some (by omega)))]
  refine mw_go mu_g173 (k := 2) (f1 := (25, [(4, .inl (rw_get H (m + 19) 4 (gi_sz H (m + 19)) w 0)), (3, .inl v), (0, .inr (.inr (some 92))), (1, .inl v), (2, .inl w)], [.inl (1 : Int32), .inl w, .inr (.inr (some (m + 19)))], H)) (C := []) rfl trivial ?_
  refine mw_cIe (fun _ => rfl) (show mu_is H (some (m + 19)) 10 from (h.1.w (md_w9 h.2.1)).1) (gi_get_ok (d := (d + 1)) (H := H) h.1 (md_w9 h.2.1) w (j := 1) (by decide)) ?_
  refine mw_go mu_g173 (k := 5) (f1 := (35, [(6, .inl (0 : Int32)), (5, .inl ((rw_get H (m + 19) 4 (gi_sz H (m + 19)) w 1) - (1 : Int32))), (4, .inl (rw_get H (m + 19) 4 (gi_sz H (m + 19)) w 0)), (3, .inl v), (0, .inr (.inr (some 92))), (1, .inl v), (2, .inl w)], [], H)) (C := []) rfl trivial ?_
  refine mw_sub (L' := [(3, .inl v), (6, .inl (0 : Int32)), (0, .inr (.inr (some 92))), (1, .inl v), (2, .inl w), (4, .inl (rw_get H (m + 19) 4 (gi_sz H (m + 19)) w 0)), (5, .inl ((rw_get H (m + 19) 4 (gi_sz H (m + 19)) w 1) - (1 : Int32)))]) (by simp) ?_
  refine mw_down (α := Int32 × Int32 × mu_H) (fun zs => (35, [(3, .inl zs.1), (6, .inl zs.2.1), (0, .inr (.inr (some 92))), (1, .inl v), (2, .inl w), (4, .inl (rw_get H (m + 19) 4 (gi_sz H (m + 19)) w 0)), (5, .inl ((rw_get H (m + 19) 4 (gi_sz H (m + 19)) w 1) - (1 : Int32)))], [], zs.2.2)) (fun zs => (2147483647 - zs.2.1.toInt).toNat) (fun zs => sd m zs.2.2 ∧ sq m H zs.2.2 ∧ gi_sz zs.2.2 93 = gi_sz H 93) (fun zs hz iha => ?_) (v, (0 : Int32), H) ⟨h, (sq.refl m H), (show gi_sz H 93 = gi_sz H 93 by omega)⟩
  obtain ⟨x, y, Hsa⟩ := zs
  obtain ⟨hpa, hta, hza⟩ := hz
  have hpa : sd m Hsa := hpa
  have hta : sq m H Hsa := hta
  have hza : gi_sz Hsa 93 = gi_sz H 93 := hza
  show mu_W _ _ (35, [(3, .inl x), (6, .inl y), (0, .inr (.inr (some 92))), (1, .inl v), (2, .inl w), (4, .inl (rw_get H (m + 19) 4 (gi_sz H (m + 19)) w 0)), (5, .inl ((rw_get H (m + 19) 4 (gi_sz H (m + 19)) w 1) - (1 : Int32)))], [], Hsa) _
  refine mw_go mu_g173 (k := 2) (f1 := (39, [(3, .inl x), (6, .inl y), (0, .inr (.inr (some 92))), (1, .inl v), (2, .inl w), (4, .inl (rw_get H (m + 19) 4 (gi_sz H (m + 19)) w 0)), (5, .inl ((rw_get H (m + 19) 4 (gi_sz H (m + 19)) w 1) - (1 : Int32)))], [.inl ((rw_get H (m + 19) 4 (gi_sz H (m + 19)) w 1) - (1 : Int32)), .inl y], Hsa)) (C := []) rfl trivial ?_
  refine mw_if (P := y < ((rw_get H (m + 19) 4 (gi_sz H (m + 19)) w 1) - (1 : Int32))) (a := 42) (b := 136) (fun _ => rfl) trivial (fun h3 => ?_) (fun h3 => ?_)
  · -- 42: y < ((rw_get H (m + 19) 4 (gi_sz H (m + 19)) w 1) - (1 : Int32))
    have huph3 := i32_up h3
    refine mw_go mu_g173 (k := 4) (f1 := (48, [(3, .inl x), (6, .inl y), (0, .inr (.inr (some 92))), (1, .inl v), (2, .inl w), (4, .inl (rw_get H (m + 19) 4 (gi_sz H (m + 19)) w 0)), (5, .inl ((rw_get H (m + 19) 4 (gi_sz H (m + 19)) w 1) - (1 : Int32)))], [.inr (.inr (mu_r Hsa 92 2)), .inl x, .inr (.inr (some 92))], Hsa)) (C := [mu_is Hsa (some 92) 12]) rfl (show mu_is Hsa (some 92) 12 from hpa.1.is rfl) ?_
    rw [hpa.2.2]
    refine mw_go mu_g173 (k := 1) (f1 := (51, [(3, .inl x), (6, .inl y), (0, .inr (.inr (some 92))), (1, .inl v), (2, .inl w), (4, .inl (rw_get H (m + 19) 4 (gi_sz H (m + 19)) w 0)), (5, .inl ((rw_get H (m + 19) 4 (gi_sz H (m + 19)) w 1) - (1 : Int32)))], [.inr (.inr (mu_r Hsa m 10)), .inl x, .inr (.inr (some 92))], Hsa)) (C := [mu_is Hsa (some m) 6]) rfl (show mu_is Hsa (some m) 6 from (show mu_is Hsa (some m) 6 from gi_im hpa.1 hpa.2.1)) ?_
    rw [(show mu_r Hsa m 10 = some (m + 21) from (gi_mr hpa.1 hpa.2.1 (j := 10) (by decide)).trans (congrArg some (by omega)))]
    refine mw_go mu_g173 (k := 4) (f1 := (57, [(3, .inl x), (6, .inl y), (0, .inr (.inr (some 92))), (1, .inl v), (2, .inl w), (4, .inl (rw_get H (m + 19) 4 (gi_sz H (m + 19)) w 0)), (5, .inl ((rw_get H (m + 19) 4 (gi_sz H (m + 19)) w 1) - (1 : Int32)))], [.inl (0 : Int32), .inl ((rw_get H (m + 19) 4 (gi_sz H (m + 19)) w 0) + y), .inr (.inr (some (m + 21))), .inl x, .inr (.inr (some 92))], Hsa)) (C := []) rfl trivial ?_
    refine mw_cIe (fun _ => rfl) (show mu_is Hsa (some (m + 21)) 10 from (hpa.1.w (md_w10 hpa.2.1)).1) (gi_get_ok (d := (d + 1)) (H := Hsa) hpa.1 (md_w10 hpa.2.1) ((rw_get H (m + 19) 4 (gi_sz H (m + 19)) w 0) + y) (j := 0) (by decide)) ?_
    refine mw_cI (fun _ => rfl) (show mu_is Hsa (some 92) 12 from hpa.1.is rfl) (so_find (d := d) hpa.1 x (rw_get Hsa (m + 21) 1 (gi_sz Hsa (m + 21)) ((rw_get H (m + 19) 4 (gi_sz H (m + 19)) w 0) + y) 0)) (fun x5 H5 q5 => ?_)
    obtain rfl := q5
    refine mw_go mu_g173 (k := 3) (f1 := (68, [(7, .inl x5), (3, .inl x), (6, .inl y), (0, .inr (.inr (some 92))), (1, .inl v), (2, .inl w), (4, .inl (rw_get H (m + 19) 4 (gi_sz H (m + 19)) w 0)), (5, .inl ((rw_get H (m + 19) 4 (gi_sz H (m + 19)) w 1) - (1 : Int32)))], [.inl x5, .inr (.inr (some 92))], Hsa)) (C := []) rfl trivial ?_
    refine mw_cI (fun _ => rfl) (show mu_is Hsa (some 92) 12 from hpa.1.is rfl) (so_kindOf (d := d) hpa.1 x5) (fun x6 H6 q6 => ?_)
    obtain rfl := q6
    refine mw_go mu_g173 (k := 1) (f1 := (72, [(7, .inl x5), (3, .inl x), (6, .inl y), (0, .inr (.inr (some 92))), (1, .inl v), (2, .inl w), (4, .inl (rw_get H (m + 19) 4 (gi_sz H (m + 19)) w 0)), (5, .inl ((rw_get H (m + 19) 4 (gi_sz H (m + 19)) w 1) - (1 : Int32)))], [.inl (4 : Int32), .inl x6], Hsa)) (C := []) rfl trivial ?_
    refine mw_if (P := x6 = (4 : Int32)) (a := 77) (b := 75) (fun _ => rfl) trivial (fun h7 => ?_) (fun h7 => ?_)
    · -- 77: x6 = (4 : Int32)
      refine mw_go mu_g173 (k := 2) (f1 := (80, [(7, .inl x5), (3, .inl x), (6, .inl y), (0, .inr (.inr (some 92))), (1, .inl v), (2, .inl w), (4, .inl (rw_get H (m + 19) 4 (gi_sz H (m + 19)) w 0)), (5, .inl ((rw_get H (m + 19) 4 (gi_sz H (m + 19)) w 1) - (1 : Int32)))], [.inl x5, .inr (.inr (some 92))], Hsa)) (C := []) rfl trivial ?_
      refine mw_cI (fun _ => rfl) (show mu_is Hsa (some 92) 12 from hpa.1.is rfl) (so_rowOf (d := d) hpa.1 x5) (fun x8 H8 q8 => ?_)
      obtain rfl := q8
      refine mw_go mu_g173 (k := 3) (f1 := (89, [(8, .inl x8), (7, .inl x5), (3, .inl x), (6, .inl y), (0, .inr (.inr (some 92))), (1, .inl v), (2, .inl w), (4, .inl (rw_get H (m + 19) 4 (gi_sz H (m + 19)) w 0)), (5, .inl ((rw_get H (m + 19) 4 (gi_sz H (m + 19)) w 1) - (1 : Int32)))], [.inr (.inr (mu_r Hsa 92 2))], Hsa)) (C := [mu_is Hsa (some 92) 12]) rfl (show mu_is Hsa (some 92) 12 from hpa.1.is rfl) ?_
      rw [hpa.2.2]
      refine mw_go mu_g173 (k := 1) (f1 := (92, [(8, .inl x8), (7, .inl x5), (3, .inl x), (6, .inl y), (0, .inr (.inr (some 92))), (1, .inl v), (2, .inl w), (4, .inl (rw_get H (m + 19) 4 (gi_sz H (m + 19)) w 0)), (5, .inl ((rw_get H (m + 19) 4 (gi_sz H (m + 19)) w 1) - (1 : Int32)))], [.inr (.inr (mu_r Hsa m 10))], Hsa)) (C := [mu_is Hsa (some m) 6]) rfl (show mu_is Hsa (some m) 6 from (show mu_is Hsa (some m) 6 from gi_im hpa.1 hpa.2.1)) ?_
      rw [(show mu_r Hsa m 10 = some (m + 21) from (gi_mr hpa.1 hpa.2.1 (j := 10) (by decide)).trans (congrArg some (by omega)))]
      refine mw_go mu_g173 (k := 7) (f1 := (104, [(8, .inl x8), (7, .inl x5), (3, .inl x), (6, .inl y), (0, .inr (.inr (some 92))), (1, .inl v), (2, .inl w), (4, .inl (rw_get H (m + 19) 4 (gi_sz H (m + 19)) w 0)), (5, .inl ((rw_get H (m + 19) 4 (gi_sz H (m + 19)) w 1) - (1 : Int32)))], [.inr (.inr (mu_r Hsa 92 2)), .inl x8, .inl (0 : Int32), .inl ((rw_get H (m + 19) 4 (gi_sz H (m + 19)) w 0) + y), .inr (.inr (some (m + 21)))], Hsa)) (C := [mu_is Hsa (some 92) 12]) rfl (show mu_is Hsa (some 92) 12 from hpa.1.is rfl) ?_
      rw [hpa.2.2]
      refine mw_go mu_g173 (k := 1) (f1 := (107, [(8, .inl x8), (7, .inl x5), (3, .inl x), (6, .inl y), (0, .inr (.inr (some 92))), (1, .inl v), (2, .inl w), (4, .inl (rw_get H (m + 19) 4 (gi_sz H (m + 19)) w 0)), (5, .inl ((rw_get H (m + 19) 4 (gi_sz H (m + 19)) w 1) - (1 : Int32)))], [.inr (.inr (mu_r Hsa m 1)), .inl x8, .inl (0 : Int32), .inl ((rw_get H (m + 19) 4 (gi_sz H (m + 19)) w 0) + y), .inr (.inr (some (m + 21)))], Hsa)) (C := [mu_is Hsa (some m) 6]) rfl (show mu_is Hsa (some m) 6 from (show mu_is Hsa (some m) 6 from gi_im hpa.1 hpa.2.1)) ?_
      rw [(show mu_r Hsa m 1 = some (m + 3) from (gi_mr hpa.1 hpa.2.1 (j := 1) (by decide)).trans (congrArg some (by omega)))]
      refine mw_go mu_g173 (k := 2) (f1 := (109, [(8, .inl x8), (7, .inl x5), (3, .inl x), (6, .inl y), (0, .inr (.inr (some 92))), (1, .inl v), (2, .inl w), (4, .inl (rw_get H (m + 19) 4 (gi_sz H (m + 19)) w 0)), (5, .inl ((rw_get H (m + 19) 4 (gi_sz H (m + 19)) w 1) - (1 : Int32)))], [.inl (2 : Int32), .inl x, .inr (.inr (some (m + 3))), .inl x8, .inl (0 : Int32), .inl ((rw_get H (m + 19) 4 (gi_sz H (m + 19)) w 0) + y), .inr (.inr (some (m + 21)))], Hsa)) (C := []) rfl trivial ?_
      refine mw_cIe (fun _ => rfl) (show mu_is Hsa (some (m + 3)) 10 from (hpa.1.w (md_w1 hpa.2.1)).1) (gi_get_ok (d := (d + 1)) (H := Hsa) hpa.1 (md_w1 hpa.2.1) x (j := 2) (by decide)) ?_
      refine mw_go mu_g173 (k := 1) (f1 := (113, [(8, .inl x8), (7, .inl x5), (3, .inl x), (6, .inl y), (0, .inr (.inr (some 92))), (1, .inl v), (2, .inl w), (4, .inl (rw_get H (m + 19) 4 (gi_sz H (m + 19)) w 0)), (5, .inl ((rw_get H (m + 19) 4 (gi_sz H (m + 19)) w 1) - (1 : Int32)))], [.inl (x8 - (rw_get Hsa (m + 3) 11 (gi_sz Hsa (m + 3)) x 2)), .inl (0 : Int32), .inl ((rw_get H (m + 19) 4 (gi_sz H (m + 19)) w 0) + y), .inr (.inr (some (m + 21)))], Hsa)) (C := []) rfl trivial ?_
      refine mw_cV (fun _ => rfl) (show mu_is Hsa (some (m + 21)) 10 from (hpa.1.w (md_w10 hpa.2.1)).1) (gi_set_ok (d := (d + 1)) hpa.1 (md_w10 hpa.2.1) ((rw_get H (m + 19) 4 (gi_sz H (m + 19)) w 0) + y) (x8 - (rw_get Hsa (m + 3) 11 (gi_sz Hsa (m + 3)) x 2)) (j := 0) (by decide)) (fun H10 q10 => ?_)
      obtain ⟨hp10, qt10, qz10⟩ := hpa.set (j := 10) (c := 0) (r := (m + 21)) (row := ((rw_get H (m + 19) 4 (gi_sz H (m + 19)) w 0) + y)) (v := (x8 - (rw_get Hsa (m + 3) 11 (gi_sz Hsa (m + 3)) x 2))) (by decide) (by omega) (by decide) rfl
      rw [show rw_set Hsa (m + 21) (ps_W 10) (gi_sz Hsa (m + 21)) ((rw_get H (m + 19) 4 (gi_sz H (m + 19)) w 0) + y) 0 (x8 - (rw_get Hsa (m + 3) 11 (gi_sz Hsa (m + 3)) x 2)) = H10 from q10.symm] at hp10 qt10 qz10
      have ht10 := hta.trans qt10
      refine mw_go mu_g173 (k := 2) (f1 := (120, [(8, .inl x8), (7, .inl x5), (3, .inl x), (6, .inl y), (0, .inr (.inr (some 92))), (1, .inl v), (2, .inl w), (4, .inl (rw_get H (m + 19) 4 (gi_sz H (m + 19)) w 0)), (5, .inl ((rw_get H (m + 19) 4 (gi_sz H (m + 19)) w 1) - (1 : Int32)))], [.inr (.inr (mu_r H10 92 2))], H10)) (C := [mu_is H10 (some 92) 12]) rfl (show mu_is H10 (some 92) 12 from hp10.1.is rfl) ?_
      rw [hp10.2.2]
      refine mw_go mu_g173 (k := 1) (f1 := (123, [(8, .inl x8), (7, .inl x5), (3, .inl x), (6, .inl y), (0, .inr (.inr (some 92))), (1, .inl v), (2, .inl w), (4, .inl (rw_get H (m + 19) 4 (gi_sz H (m + 19)) w 0)), (5, .inl ((rw_get H (m + 19) 4 (gi_sz H (m + 19)) w 1) - (1 : Int32)))], [.inr (.inr (mu_r H10 m 3))], H10)) (C := [mu_is H10 (some m) 6]) rfl (show mu_is H10 (some m) 6 from (show mu_is H10 (some m) 6 from gi_im hp10.1 hp10.2.1)) ?_
      rw [(show mu_r H10 m 3 = some (m + 7) from (gi_mr hp10.1 hp10.2.1 (j := 3) (by decide)).trans (congrArg some (by omega)))]
      refine mw_go mu_g173 (k := 2) (f1 := (126, [(8, .inl x8), (7, .inl x5), (3, .inl x), (6, .inl y), (0, .inr (.inr (some 92))), (1, .inl v), (2, .inl w), (4, .inl (rw_get H (m + 19) 4 (gi_sz H (m + 19)) w 0)), (5, .inl ((rw_get H (m + 19) 4 (gi_sz H (m + 19)) w 1) - (1 : Int32)))], [.inl (4 : Int32), .inl x8, .inr (.inr (some (m + 7)))], H10)) (C := []) rfl trivial ?_
      refine mw_cIe (fun _ => rfl) (show mu_is H10 (some (m + 7)) 10 from (hp10.1.w (md_w3 hp10.2.1)).1) (gi_get_ok (d := (d + 1)) (H := H10) hp10.1 (md_w3 hp10.2.1) x8 (j := 4) (by decide)) ?_
      refine mw_go mu_g173 (k := 3) (f1 := (35, [(6, .inl (y + 1)), (3, .inl (rw_get H10 (m + 7) 6 (gi_sz H10 (m + 7)) x8 4)), (8, .inl x8), (7, .inl x5), (0, .inr (.inr (some 92))), (1, .inl v), (2, .inl w), (4, .inl (rw_get H (m + 19) 4 (gi_sz H (m + 19)) w 0)), (5, .inl ((rw_get H (m + 19) 4 (gi_sz H (m + 19)) w 1) - (1 : Int32)))], [], H10)) (C := []) rfl trivial ?_
      exact mw_sub (by simp) (iha ((rw_get H10 (m + 7) 6 (gi_sz H10 (m + 7)) x8 4), (y + 1), H10) ⟨hp10, ht10, (show gi_sz H10 93 = gi_sz H 93 by omega)⟩ (by show (2147483647 - (y + 1).toInt).toNat < (2147483647 - y.toInt).toNat; omega))
    · -- 75: not x6 = (4 : Int32)
      refine mw_go mu_g173 (k := 1) (f1 := (76, [(7, .inl x5), (3, .inl x), (6, .inl y), (0, .inr (.inr (some 92))), (1, .inl v), (2, .inl w), (4, .inl (rw_get H (m + 19) 4 (gi_sz H (m + 19)) w 0)), (5, .inl ((rw_get H (m + 19) 4 (gi_sz H (m + 19)) w 1) - (1 : Int32)))], [.inl (0 : Int32)], Hsa)) (C := []) rfl trivial ?_
      exact mw_of (fun _ => mu_ret rfl (Or.inl rfl) ⟨_, Hsa, rfl, Or.inl rfl, hpa, hta, by omega⟩)
  · -- 136: not y < ((rw_get H (m + 19) 4 (gi_sz H (m + 19)) w 1) - (1 : Int32))
    refine mw_go mu_g173 (k := 4) (f1 := (142, [(3, .inl x), (6, .inl y), (0, .inr (.inr (some 92))), (1, .inl v), (2, .inl w), (4, .inl (rw_get H (m + 19) 4 (gi_sz H (m + 19)) w 0)), (5, .inl ((rw_get H (m + 19) 4 (gi_sz H (m + 19)) w 1) - (1 : Int32)))], [.inr (.inr (mu_r Hsa 92 2)), .inl x, .inr (.inr (some 92))], Hsa)) (C := [mu_is Hsa (some 92) 12]) rfl (show mu_is Hsa (some 92) 12 from hpa.1.is rfl) ?_
    rw [hpa.2.2]
    refine mw_go mu_g173 (k := 1) (f1 := (145, [(3, .inl x), (6, .inl y), (0, .inr (.inr (some 92))), (1, .inl v), (2, .inl w), (4, .inl (rw_get H (m + 19) 4 (gi_sz H (m + 19)) w 0)), (5, .inl ((rw_get H (m + 19) 4 (gi_sz H (m + 19)) w 1) - (1 : Int32)))], [.inr (.inr (mu_r Hsa m 10)), .inl x, .inr (.inr (some 92))], Hsa)) (C := [mu_is Hsa (some m) 6]) rfl (show mu_is Hsa (some m) 6 from (show mu_is Hsa (some m) 6 from gi_im hpa.1 hpa.2.1)) ?_
    rw [(show mu_r Hsa m 10 = some (m + 21) from (gi_mr hpa.1 hpa.2.1 (j := 10) (by decide)).trans (congrArg some (by omega)))]
    refine mw_go mu_g173 (k := 4) (f1 := (151, [(3, .inl x), (6, .inl y), (0, .inr (.inr (some 92))), (1, .inl v), (2, .inl w), (4, .inl (rw_get H (m + 19) 4 (gi_sz H (m + 19)) w 0)), (5, .inl ((rw_get H (m + 19) 4 (gi_sz H (m + 19)) w 1) - (1 : Int32)))], [.inl (0 : Int32), .inl ((rw_get H (m + 19) 4 (gi_sz H (m + 19)) w 0) + ((rw_get H (m + 19) 4 (gi_sz H (m + 19)) w 1) - (1 : Int32))), .inr (.inr (some (m + 21))), .inl x, .inr (.inr (some 92))], Hsa)) (C := []) rfl trivial ?_
    refine mw_cIe (fun _ => rfl) (show mu_is Hsa (some (m + 21)) 10 from (hpa.1.w (md_w10 hpa.2.1)).1) (gi_get_ok (d := (d + 1)) (H := Hsa) hpa.1 (md_w10 hpa.2.1) ((rw_get H (m + 19) 4 (gi_sz H (m + 19)) w 0) + ((rw_get H (m + 19) 4 (gi_sz H (m + 19)) w 1) - (1 : Int32))) (j := 0) (by decide)) ?_
    refine mw_cI (fun _ => rfl) (show mu_is Hsa (some 92) 12 from hpa.1.is rfl) (so_find (d := d) hpa.1 x (rw_get Hsa (m + 21) 1 (gi_sz Hsa (m + 21)) ((rw_get H (m + 19) 4 (gi_sz H (m + 19)) w 0) + ((rw_get H (m + 19) 4 (gi_sz H (m + 19)) w 1) - (1 : Int32))) 0)) (fun x13 H13 q13 => ?_)
    obtain rfl := q13
    refine mw_go mu_g173 (k := 3) (f1 := (162, [(6, .inl x13), (3, .inl x), (0, .inr (.inr (some 92))), (1, .inl v), (2, .inl w), (4, .inl (rw_get H (m + 19) 4 (gi_sz H (m + 19)) w 0)), (5, .inl ((rw_get H (m + 19) 4 (gi_sz H (m + 19)) w 1) - (1 : Int32)))], [.inl x13, .inr (.inr (some 92))], Hsa)) (C := []) rfl trivial ?_
    refine mw_cI (fun _ => rfl) (show mu_is Hsa (some 92) 12 from hpa.1.is rfl) (so_kindOf (d := d) hpa.1 x13) (fun x14 H14 q14 => ?_)
    obtain rfl := q14
    refine mw_go mu_g173 (k := 2) (f1 := (169, [(7, .inl x14), (6, .inl x13), (3, .inl x), (0, .inr (.inr (some 92))), (1, .inl v), (2, .inl w), (4, .inl (rw_get H (m + 19) 4 (gi_sz H (m + 19)) w 0)), (5, .inl ((rw_get H (m + 19) 4 (gi_sz H (m + 19)) w 1) - (1 : Int32)))], [.inl x14], Hsa)) (C := []) rfl trivial ?_
    refine mw_if (P := x14 = 0) (a := 172) (b := 207) (fun _ => rfl) trivial (fun h15 => ?_) (fun h15 => ?_)
    · -- 172: x14 = 0
      refine mw_go mu_g173 (k := 1) (f1 := (174, [(7, .inl x14), (6, .inl x13), (3, .inl x), (0, .inr (.inr (some 92))), (1, .inl v), (2, .inl w), (4, .inl (rw_get H (m + 19) 4 (gi_sz H (m + 19)) w 0)), (5, .inl ((rw_get H (m + 19) 4 (gi_sz H (m + 19)) w 1) - (1 : Int32)))], [.inl ((rw_get H (m + 19) 4 (gi_sz H (m + 19)) w 1) - (1 : Int32))], Hsa)) (C := []) rfl trivial ?_
      refine mw_if (P := ((rw_get H (m + 19) 4 (gi_sz H (m + 19)) w 1) - (1 : Int32)) = 0) (a := 177) (b := 207) (fun _ => rfl) trivial (fun h16 => ?_) (fun h16 => ?_)
      · -- 177: ((rw_get H (m + 19) 4 (gi_sz H (m + 19)) w 1) - (1 : Int32)) = 0
        refine mw_go mu_g173 (k := 2) (f1 := (181, [(7, .inl x14), (6, .inl x13), (3, .inl x), (0, .inr (.inr (some 92))), (1, .inl v), (2, .inl w), (4, .inl (rw_get H (m + 19) 4 (gi_sz H (m + 19)) w 0)), (5, .inl ((rw_get H (m + 19) 4 (gi_sz H (m + 19)) w 1) - (1 : Int32)))], [.inr (.inr (mu_r Hsa 92 2))], Hsa)) (C := [mu_is Hsa (some 92) 12]) rfl (show mu_is Hsa (some 92) 12 from hpa.1.is rfl) ?_
        rw [hpa.2.2]
        refine mw_go mu_g173 (k := 1) (f1 := (184, [(7, .inl x14), (6, .inl x13), (3, .inl x), (0, .inr (.inr (some 92))), (1, .inl v), (2, .inl w), (4, .inl (rw_get H (m + 19) 4 (gi_sz H (m + 19)) w 0)), (5, .inl ((rw_get H (m + 19) 4 (gi_sz H (m + 19)) w 1) - (1 : Int32)))], [.inr (.inr (mu_r Hsa m 9))], Hsa)) (C := [mu_is Hsa (some m) 6]) rfl (show mu_is Hsa (some m) 6 from (show mu_is Hsa (some m) 6 from gi_im hpa.1 hpa.2.1)) ?_
        rw [(show mu_r Hsa m 9 = some (m + 19) from (gi_mr hpa.1 hpa.2.1 (j := 9) (by decide)).trans (congrArg some (by omega)))]
        refine mw_go mu_g173 (k := 2) (f1 := (186, [(7, .inl x14), (6, .inl x13), (3, .inl x), (0, .inr (.inr (some 92))), (1, .inl v), (2, .inl w), (4, .inl (rw_get H (m + 19) 4 (gi_sz H (m + 19)) w 0)), (5, .inl ((rw_get H (m + 19) 4 (gi_sz H (m + 19)) w 1) - (1 : Int32)))], [.inl (3 : Int32), .inl w, .inr (.inr (some (m + 19)))], Hsa)) (C := []) rfl trivial ?_
        refine mw_cIe (fun _ => rfl) (show mu_is Hsa (some (m + 19)) 10 from (hpa.1.w (md_w9 hpa.2.1)).1) (gi_get_ok (d := (d + 1)) (H := Hsa) hpa.1 (md_w9 hpa.2.1) w (j := 3) (by decide)) ?_
        refine mw_if (P := (rw_get Hsa (m + 19) 4 (gi_sz Hsa (m + 19)) w 3) < 0) (a := 207) (b := 192) (fun _ => rfl) trivial (fun h18 => ?_) (fun h18 => ?_)
        · -- 207: (rw_get Hsa (m + 19) 4 (gi_sz Hsa (m + 19)) w 3) < 0
          refine mw_go mu_g173 (k := 2) (f1 := (210, [(7, .inl x14), (6, .inl x13), (3, .inl x), (0, .inr (.inr (some 92))), (1, .inl v), (2, .inl w), (4, .inl (rw_get H (m + 19) 4 (gi_sz H (m + 19)) w 0)), (5, .inl ((rw_get H (m + 19) 4 (gi_sz H (m + 19)) w 1) - (1 : Int32)))], [.inl (3 : Int32), .inl x14], Hsa)) (C := []) rfl trivial ?_
          refine mw_if (P := x14 = (3 : Int32)) (a := 232) (b := 213) (fun _ => rfl) trivial (fun h19 => ?_) (fun h19 => ?_)
          · -- 232: x14 = (3 : Int32)
            refine mw_go mu_g173 (k := 2) (f1 := (235, [(7, .inl x14), (6, .inl x13), (3, .inl x), (0, .inr (.inr (some 92))), (1, .inl v), (2, .inl w), (4, .inl (rw_get H (m + 19) 4 (gi_sz H (m + 19)) w 0)), (5, .inl ((rw_get H (m + 19) 4 (gi_sz H (m + 19)) w 1) - (1 : Int32)))], [.inl (3 : Int32), .inl x14], Hsa)) (C := []) rfl trivial ?_
            refine mw_if (P := x14 = (3 : Int32)) (a := 238) (b := 242) (fun _ => rfl) trivial (fun _ => ?_) (fun h20 => absurd h19 h20)
            refine mw_go mu_g173 (k := 5) (f1 := (259, [(8, .inl (2 : Int32)), (7, .inl x14), (6, .inl x13), (3, .inl x), (0, .inr (.inr (some 92))), (1, .inl v), (2, .inl w), (4, .inl (rw_get H (m + 19) 4 (gi_sz H (m + 19)) w 0)), (5, .inl ((rw_get H (m + 19) 4 (gi_sz H (m + 19)) w 1) - (1 : Int32)))], [.inr (.inr (mu_r Hsa 92 2))], Hsa)) (C := [mu_is Hsa (some 92) 12]) rfl (show mu_is Hsa (some 92) 12 from hpa.1.is rfl) ?_
            rw [hpa.2.2]
            refine mw_go mu_g173 (k := 1) (f1 := (262, [(8, .inl (2 : Int32)), (7, .inl x14), (6, .inl x13), (3, .inl x), (0, .inr (.inr (some 92))), (1, .inl v), (2, .inl w), (4, .inl (rw_get H (m + 19) 4 (gi_sz H (m + 19)) w 0)), (5, .inl ((rw_get H (m + 19) 4 (gi_sz H (m + 19)) w 1) - (1 : Int32)))], [.inr (.inr (mu_r Hsa m 9))], Hsa)) (C := [mu_is Hsa (some m) 6]) rfl (show mu_is Hsa (some m) 6 from (show mu_is Hsa (some m) 6 from gi_im hpa.1 hpa.2.1)) ?_
            rw [(show mu_r Hsa m 9 = some (m + 19) from (gi_mr hpa.1 hpa.2.1 (j := 9) (by decide)).trans (congrArg some (by omega)))]
            refine mw_go mu_g173 (k := 3) (f1 := (266, [(8, .inl (2 : Int32)), (7, .inl x14), (6, .inl x13), (3, .inl x), (0, .inr (.inr (some 92))), (1, .inl v), (2, .inl w), (4, .inl (rw_get H (m + 19) 4 (gi_sz H (m + 19)) w 0)), (5, .inl ((rw_get H (m + 19) 4 (gi_sz H (m + 19)) w 1) - (1 : Int32)))], [.inl x14, .inl (2 : Int32), .inl w, .inr (.inr (some (m + 19)))], Hsa)) (C := []) rfl trivial ?_
            refine mw_cV (fun _ => rfl) (show mu_is Hsa (some (m + 19)) 10 from (hpa.1.w (md_w9 hpa.2.1)).1) (gi_set_ok (d := (d + 1)) hpa.1 (md_w9 hpa.2.1) w x14 (j := 2) (by decide)) (fun H21 q21 => ?_)
            obtain ⟨hp21, qt21, qz21⟩ := hpa.set (j := 9) (c := 2) (r := (m + 19)) (row := w) (v := x14) (by decide) (by omega) (by decide) rfl
            rw [show rw_set Hsa (m + 19) (ps_W 9) (gi_sz Hsa (m + 19)) w 2 x14 = H21 from q21.symm] at hp21 qt21 qz21
            have ht21 := hta.trans qt21
            refine mw_go mu_g173 (k := 2) (f1 := (273, [(8, .inl (2 : Int32)), (7, .inl x14), (6, .inl x13), (3, .inl x), (0, .inr (.inr (some 92))), (1, .inl v), (2, .inl w), (4, .inl (rw_get H (m + 19) 4 (gi_sz H (m + 19)) w 0)), (5, .inl ((rw_get H (m + 19) 4 (gi_sz H (m + 19)) w 1) - (1 : Int32)))], [.inr (.inr (mu_r H21 92 2))], H21)) (C := [mu_is H21 (some 92) 12]) rfl (show mu_is H21 (some 92) 12 from hp21.1.is rfl) ?_
            rw [hp21.2.2]
            refine mw_go mu_g173 (k := 1) (f1 := (276, [(8, .inl (2 : Int32)), (7, .inl x14), (6, .inl x13), (3, .inl x), (0, .inr (.inr (some 92))), (1, .inl v), (2, .inl w), (4, .inl (rw_get H (m + 19) 4 (gi_sz H (m + 19)) w 0)), (5, .inl ((rw_get H (m + 19) 4 (gi_sz H (m + 19)) w 1) - (1 : Int32)))], [.inr (.inr (mu_r H21 m 9))], H21)) (C := [mu_is H21 (some m) 6]) rfl (show mu_is H21 (some m) 6 from (show mu_is H21 (some m) 6 from gi_im hp21.1 hp21.2.1)) ?_
            rw [(show mu_r H21 m 9 = some (m + 19) from (gi_mr hp21.1 hp21.2.1 (j := 9) (by decide)).trans (congrArg some (by omega)))]
            refine mw_go mu_g173 (k := 4) (f1 := (281, [(8, .inl (2 : Int32)), (7, .inl x14), (6, .inl x13), (3, .inl x), (0, .inr (.inr (some 92))), (1, .inl v), (2, .inl w), (4, .inl (rw_get H (m + 19) 4 (gi_sz H (m + 19)) w 0)), (5, .inl ((rw_get H (m + 19) 4 (gi_sz H (m + 19)) w 1) - (1 : Int32)))], [.inl x13, .inr (.inr (some 92)), .inl (3 : Int32), .inl w, .inr (.inr (some (m + 19)))], H21)) (C := []) rfl trivial ?_
            refine mw_cI (fun _ => rfl) (show mu_is H21 (some 92) 12 from hp21.1.is rfl) (so_rowOf (d := d) hp21.1 x13) (fun x22 H22 q22 => ?_)
            obtain rfl := q22
            refine mw_go mu_g173 (k := 2) (f1 := (288, [(8, .inl (2 : Int32)), (7, .inl x14), (6, .inl x13), (3, .inl x), (0, .inr (.inr (some 92))), (1, .inl v), (2, .inl w), (4, .inl (rw_get H (m + 19) 4 (gi_sz H (m + 19)) w 0)), (5, .inl ((rw_get H (m + 19) 4 (gi_sz H (m + 19)) w 1) - (1 : Int32)))], [.inr (.inr (mu_r H21 92 2)), .inl x22, .inl (3 : Int32), .inl w, .inr (.inr (some (m + 19)))], H21)) (C := [mu_is H21 (some 92) 12]) rfl (show mu_is H21 (some 92) 12 from hp21.1.is rfl) ?_
            rw [hp21.2.2]
            refine mw_go mu_g173 (k := 1) (f1 := (291, [(8, .inl (2 : Int32)), (7, .inl x14), (6, .inl x13), (3, .inl x), (0, .inr (.inr (some 92))), (1, .inl v), (2, .inl w), (4, .inl (rw_get H (m + 19) 4 (gi_sz H (m + 19)) w 0)), (5, .inl ((rw_get H (m + 19) 4 (gi_sz H (m + 19)) w 1) - (1 : Int32)))], [.inr (.inr (mu_r H21 m 1)), .inl x22, .inl (3 : Int32), .inl w, .inr (.inr (some (m + 19)))], H21)) (C := [mu_is H21 (some m) 6]) rfl (show mu_is H21 (some m) 6 from (show mu_is H21 (some m) 6 from gi_im hp21.1 hp21.2.1)) ?_
            rw [(show mu_r H21 m 1 = some (m + 3) from (gi_mr hp21.1 hp21.2.1 (j := 1) (by decide)).trans (congrArg some (by omega)))]
            refine mw_go mu_g173 (k := 2) (f1 := (294, [(8, .inl (2 : Int32)), (7, .inl x14), (6, .inl x13), (3, .inl x), (0, .inr (.inr (some 92))), (1, .inl v), (2, .inl w), (4, .inl (rw_get H (m + 19) 4 (gi_sz H (m + 19)) w 0)), (5, .inl ((rw_get H (m + 19) 4 (gi_sz H (m + 19)) w 1) - (1 : Int32)))], [.inl (2 : Int32), .inl x, .inr (.inr (some (m + 3))), .inl x22, .inl (3 : Int32), .inl w, .inr (.inr (some (m + 19)))], H21)) (C := []) rfl trivial ?_
            refine mw_cIe (fun _ => rfl) (show mu_is H21 (some (m + 3)) 10 from (hp21.1.w (md_w1 hp21.2.1)).1) (gi_get_ok (d := (d + 1)) (H := H21) hp21.1 (md_w1 hp21.2.1) x (j := 2) (by decide)) ?_
            refine mw_go mu_g173 (k := 1) (f1 := (298, [(8, .inl (2 : Int32)), (7, .inl x14), (6, .inl x13), (3, .inl x), (0, .inr (.inr (some 92))), (1, .inl v), (2, .inl w), (4, .inl (rw_get H (m + 19) 4 (gi_sz H (m + 19)) w 0)), (5, .inl ((rw_get H (m + 19) 4 (gi_sz H (m + 19)) w 1) - (1 : Int32)))], [.inl (x22 - (rw_get H21 (m + 3) 11 (gi_sz H21 (m + 3)) x 2)), .inl (3 : Int32), .inl w, .inr (.inr (some (m + 19)))], H21)) (C := []) rfl trivial ?_
            refine mw_cV (fun _ => rfl) (show mu_is H21 (some (m + 19)) 10 from (hp21.1.w (md_w9 hp21.2.1)).1) (gi_set_ok (d := (d + 1)) hp21.1 (md_w9 hp21.2.1) w (x22 - (rw_get H21 (m + 3) 11 (gi_sz H21 (m + 3)) x 2)) (j := 3) (by decide)) (fun H24 q24 => ?_)
            obtain ⟨hp24, qt24, qz24⟩ := hp21.set (j := 9) (c := 3) (r := (m + 19)) (row := w) (v := (x22 - (rw_get H21 (m + 3) 11 (gi_sz H21 (m + 3)) x 2))) (by decide) (by omega) (by decide) rfl
            rw [show rw_set H21 (m + 19) (ps_W 9) (gi_sz H21 (m + 19)) w 3 (x22 - (rw_get H21 (m + 3) 11 (gi_sz H21 (m + 3)) x 2)) = H24 from q24.symm] at hp24 qt24 qz24
            have ht24 := ht21.trans qt24
            refine mw_go mu_g173 (k := 1) (f1 := (302, [(8, .inl (2 : Int32)), (7, .inl x14), (6, .inl x13), (3, .inl x), (0, .inr (.inr (some 92))), (1, .inl v), (2, .inl w), (4, .inl (rw_get H (m + 19) 4 (gi_sz H (m + 19)) w 0)), (5, .inl ((rw_get H (m + 19) 4 (gi_sz H (m + 19)) w 1) - (1 : Int32)))], [.inl (1 : Int32)], H24)) (C := []) rfl trivial ?_
            exact mw_of (fun _ => mu_ret rfl (Or.inr rfl) ⟨_, H24, rfl, Or.inr rfl, hp24, ht24, by omega⟩)
          · -- 213: not x14 = (3 : Int32)
            refine mw_go mu_g173 (k := 2) (f1 := (216, [(7, .inl x14), (6, .inl x13), (3, .inl x), (0, .inr (.inr (some 92))), (1, .inl v), (2, .inl w), (4, .inl (rw_get H (m + 19) 4 (gi_sz H (m + 19)) w 0)), (5, .inl ((rw_get H (m + 19) 4 (gi_sz H (m + 19)) w 1) - (1 : Int32)))], [.inl (2 : Int32), .inl x14], Hsa)) (C := []) rfl trivial ?_
            refine mw_if (P := x14 = (2 : Int32)) (a := 232) (b := 219) (fun _ => rfl) trivial (fun h25 => ?_) (fun h25 => ?_)
            · -- 232: x14 = (2 : Int32)
              refine mw_go mu_g173 (k := 2) (f1 := (235, [(7, .inl x14), (6, .inl x13), (3, .inl x), (0, .inr (.inr (some 92))), (1, .inl v), (2, .inl w), (4, .inl (rw_get H (m + 19) 4 (gi_sz H (m + 19)) w 0)), (5, .inl ((rw_get H (m + 19) 4 (gi_sz H (m + 19)) w 1) - (1 : Int32)))], [.inl (3 : Int32), .inl x14], Hsa)) (C := []) rfl trivial ?_
              refine mw_if (P := x14 = (3 : Int32)) (a := 238) (b := 242) (fun _ => rfl) trivial (fun h26 => absurd h26 h19) (fun _ => ?_)
              refine mw_go mu_g173 (k := 2) (f1 := (245, [(7, .inl x14), (6, .inl x13), (3, .inl x), (0, .inr (.inr (some 92))), (1, .inl v), (2, .inl w), (4, .inl (rw_get H (m + 19) 4 (gi_sz H (m + 19)) w 0)), (5, .inl ((rw_get H (m + 19) 4 (gi_sz H (m + 19)) w 1) - (1 : Int32)))], [.inl (2 : Int32), .inl x14], Hsa)) (C := []) rfl trivial ?_
              refine mw_if (P := x14 = (2 : Int32)) (a := 248) (b := 252) (fun _ => rfl) trivial (fun _ => ?_) (fun h27 => absurd h25 h27)
              refine mw_go mu_g173 (k := 5) (f1 := (259, [(8, .inl (3 : Int32)), (7, .inl x14), (6, .inl x13), (3, .inl x), (0, .inr (.inr (some 92))), (1, .inl v), (2, .inl w), (4, .inl (rw_get H (m + 19) 4 (gi_sz H (m + 19)) w 0)), (5, .inl ((rw_get H (m + 19) 4 (gi_sz H (m + 19)) w 1) - (1 : Int32)))], [.inr (.inr (mu_r Hsa 92 2))], Hsa)) (C := [mu_is Hsa (some 92) 12]) rfl (show mu_is Hsa (some 92) 12 from hpa.1.is rfl) ?_
              rw [hpa.2.2]
              refine mw_go mu_g173 (k := 1) (f1 := (262, [(8, .inl (3 : Int32)), (7, .inl x14), (6, .inl x13), (3, .inl x), (0, .inr (.inr (some 92))), (1, .inl v), (2, .inl w), (4, .inl (rw_get H (m + 19) 4 (gi_sz H (m + 19)) w 0)), (5, .inl ((rw_get H (m + 19) 4 (gi_sz H (m + 19)) w 1) - (1 : Int32)))], [.inr (.inr (mu_r Hsa m 9))], Hsa)) (C := [mu_is Hsa (some m) 6]) rfl (show mu_is Hsa (some m) 6 from (show mu_is Hsa (some m) 6 from gi_im hpa.1 hpa.2.1)) ?_
              rw [(show mu_r Hsa m 9 = some (m + 19) from (gi_mr hpa.1 hpa.2.1 (j := 9) (by decide)).trans (congrArg some (by omega)))]
              refine mw_go mu_g173 (k := 3) (f1 := (266, [(8, .inl (3 : Int32)), (7, .inl x14), (6, .inl x13), (3, .inl x), (0, .inr (.inr (some 92))), (1, .inl v), (2, .inl w), (4, .inl (rw_get H (m + 19) 4 (gi_sz H (m + 19)) w 0)), (5, .inl ((rw_get H (m + 19) 4 (gi_sz H (m + 19)) w 1) - (1 : Int32)))], [.inl x14, .inl (2 : Int32), .inl w, .inr (.inr (some (m + 19)))], Hsa)) (C := []) rfl trivial ?_
              refine mw_cV (fun _ => rfl) (show mu_is Hsa (some (m + 19)) 10 from (hpa.1.w (md_w9 hpa.2.1)).1) (gi_set_ok (d := (d + 1)) hpa.1 (md_w9 hpa.2.1) w x14 (j := 2) (by decide)) (fun H28 q28 => ?_)
              obtain ⟨hp28, qt28, qz28⟩ := hpa.set (j := 9) (c := 2) (r := (m + 19)) (row := w) (v := x14) (by decide) (by omega) (by decide) rfl
              rw [show rw_set Hsa (m + 19) (ps_W 9) (gi_sz Hsa (m + 19)) w 2 x14 = H28 from q28.symm] at hp28 qt28 qz28
              have ht28 := hta.trans qt28
              refine mw_go mu_g173 (k := 2) (f1 := (273, [(8, .inl (3 : Int32)), (7, .inl x14), (6, .inl x13), (3, .inl x), (0, .inr (.inr (some 92))), (1, .inl v), (2, .inl w), (4, .inl (rw_get H (m + 19) 4 (gi_sz H (m + 19)) w 0)), (5, .inl ((rw_get H (m + 19) 4 (gi_sz H (m + 19)) w 1) - (1 : Int32)))], [.inr (.inr (mu_r H28 92 2))], H28)) (C := [mu_is H28 (some 92) 12]) rfl (show mu_is H28 (some 92) 12 from hp28.1.is rfl) ?_
              rw [hp28.2.2]
              refine mw_go mu_g173 (k := 1) (f1 := (276, [(8, .inl (3 : Int32)), (7, .inl x14), (6, .inl x13), (3, .inl x), (0, .inr (.inr (some 92))), (1, .inl v), (2, .inl w), (4, .inl (rw_get H (m + 19) 4 (gi_sz H (m + 19)) w 0)), (5, .inl ((rw_get H (m + 19) 4 (gi_sz H (m + 19)) w 1) - (1 : Int32)))], [.inr (.inr (mu_r H28 m 9))], H28)) (C := [mu_is H28 (some m) 6]) rfl (show mu_is H28 (some m) 6 from (show mu_is H28 (some m) 6 from gi_im hp28.1 hp28.2.1)) ?_
              rw [(show mu_r H28 m 9 = some (m + 19) from (gi_mr hp28.1 hp28.2.1 (j := 9) (by decide)).trans (congrArg some (by omega)))]
              refine mw_go mu_g173 (k := 4) (f1 := (281, [(8, .inl (3 : Int32)), (7, .inl x14), (6, .inl x13), (3, .inl x), (0, .inr (.inr (some 92))), (1, .inl v), (2, .inl w), (4, .inl (rw_get H (m + 19) 4 (gi_sz H (m + 19)) w 0)), (5, .inl ((rw_get H (m + 19) 4 (gi_sz H (m + 19)) w 1) - (1 : Int32)))], [.inl x13, .inr (.inr (some 92)), .inl (3 : Int32), .inl w, .inr (.inr (some (m + 19)))], H28)) (C := []) rfl trivial ?_
              refine mw_cI (fun _ => rfl) (show mu_is H28 (some 92) 12 from hp28.1.is rfl) (so_rowOf (d := d) hp28.1 x13) (fun x29 H29 q29 => ?_)
              obtain rfl := q29
              refine mw_go mu_g173 (k := 2) (f1 := (288, [(8, .inl (3 : Int32)), (7, .inl x14), (6, .inl x13), (3, .inl x), (0, .inr (.inr (some 92))), (1, .inl v), (2, .inl w), (4, .inl (rw_get H (m + 19) 4 (gi_sz H (m + 19)) w 0)), (5, .inl ((rw_get H (m + 19) 4 (gi_sz H (m + 19)) w 1) - (1 : Int32)))], [.inr (.inr (mu_r H28 92 2)), .inl x29, .inl (3 : Int32), .inl w, .inr (.inr (some (m + 19)))], H28)) (C := [mu_is H28 (some 92) 12]) rfl (show mu_is H28 (some 92) 12 from hp28.1.is rfl) ?_
              rw [hp28.2.2]
              refine mw_go mu_g173 (k := 1) (f1 := (291, [(8, .inl (3 : Int32)), (7, .inl x14), (6, .inl x13), (3, .inl x), (0, .inr (.inr (some 92))), (1, .inl v), (2, .inl w), (4, .inl (rw_get H (m + 19) 4 (gi_sz H (m + 19)) w 0)), (5, .inl ((rw_get H (m + 19) 4 (gi_sz H (m + 19)) w 1) - (1 : Int32)))], [.inr (.inr (mu_r H28 m 1)), .inl x29, .inl (3 : Int32), .inl w, .inr (.inr (some (m + 19)))], H28)) (C := [mu_is H28 (some m) 6]) rfl (show mu_is H28 (some m) 6 from (show mu_is H28 (some m) 6 from gi_im hp28.1 hp28.2.1)) ?_
              rw [(show mu_r H28 m 1 = some (m + 3) from (gi_mr hp28.1 hp28.2.1 (j := 1) (by decide)).trans (congrArg some (by omega)))]
              refine mw_go mu_g173 (k := 2) (f1 := (294, [(8, .inl (3 : Int32)), (7, .inl x14), (6, .inl x13), (3, .inl x), (0, .inr (.inr (some 92))), (1, .inl v), (2, .inl w), (4, .inl (rw_get H (m + 19) 4 (gi_sz H (m + 19)) w 0)), (5, .inl ((rw_get H (m + 19) 4 (gi_sz H (m + 19)) w 1) - (1 : Int32)))], [.inl (3 : Int32), .inl x, .inr (.inr (some (m + 3))), .inl x29, .inl (3 : Int32), .inl w, .inr (.inr (some (m + 19)))], H28)) (C := []) rfl trivial ?_
              refine mw_cIe (fun _ => rfl) (show mu_is H28 (some (m + 3)) 10 from (hp28.1.w (md_w1 hp28.2.1)).1) (gi_get_ok (d := (d + 1)) (H := H28) hp28.1 (md_w1 hp28.2.1) x (j := 3) (by decide)) ?_
              refine mw_go mu_g173 (k := 1) (f1 := (298, [(8, .inl (3 : Int32)), (7, .inl x14), (6, .inl x13), (3, .inl x), (0, .inr (.inr (some 92))), (1, .inl v), (2, .inl w), (4, .inl (rw_get H (m + 19) 4 (gi_sz H (m + 19)) w 0)), (5, .inl ((rw_get H (m + 19) 4 (gi_sz H (m + 19)) w 1) - (1 : Int32)))], [.inl (x29 - (rw_get H28 (m + 3) 11 (gi_sz H28 (m + 3)) x 3)), .inl (3 : Int32), .inl w, .inr (.inr (some (m + 19)))], H28)) (C := []) rfl trivial ?_
              refine mw_cV (fun _ => rfl) (show mu_is H28 (some (m + 19)) 10 from (hp28.1.w (md_w9 hp28.2.1)).1) (gi_set_ok (d := (d + 1)) hp28.1 (md_w9 hp28.2.1) w (x29 - (rw_get H28 (m + 3) 11 (gi_sz H28 (m + 3)) x 3)) (j := 3) (by decide)) (fun H31 q31 => ?_)
              obtain ⟨hp31, qt31, qz31⟩ := hp28.set (j := 9) (c := 3) (r := (m + 19)) (row := w) (v := (x29 - (rw_get H28 (m + 3) 11 (gi_sz H28 (m + 3)) x 3))) (by decide) (by omega) (by decide) rfl
              rw [show rw_set H28 (m + 19) (ps_W 9) (gi_sz H28 (m + 19)) w 3 (x29 - (rw_get H28 (m + 3) 11 (gi_sz H28 (m + 3)) x 3)) = H31 from q31.symm] at hp31 qt31 qz31
              have ht31 := ht28.trans qt31
              refine mw_go mu_g173 (k := 1) (f1 := (302, [(8, .inl (3 : Int32)), (7, .inl x14), (6, .inl x13), (3, .inl x), (0, .inr (.inr (some 92))), (1, .inl v), (2, .inl w), (4, .inl (rw_get H (m + 19) 4 (gi_sz H (m + 19)) w 0)), (5, .inl ((rw_get H (m + 19) 4 (gi_sz H (m + 19)) w 1) - (1 : Int32)))], [.inl (1 : Int32)], H31)) (C := []) rfl trivial ?_
              exact mw_of (fun _ => mu_ret rfl (Or.inr rfl) ⟨_, H31, rfl, Or.inr rfl, hp31, ht31, by omega⟩)
            · -- 219: not x14 = (2 : Int32)
              refine mw_go mu_g173 (k := 2) (f1 := (222, [(7, .inl x14), (6, .inl x13), (3, .inl x), (0, .inr (.inr (some 92))), (1, .inl v), (2, .inl w), (4, .inl (rw_get H (m + 19) 4 (gi_sz H (m + 19)) w 0)), (5, .inl ((rw_get H (m + 19) 4 (gi_sz H (m + 19)) w 1) - (1 : Int32)))], [.inl (1 : Int32), .inl x14], Hsa)) (C := []) rfl trivial ?_
              refine mw_if (P := x14 = (1 : Int32)) (a := 225) (b := 230) (fun _ => rfl) trivial (fun h32 => ?_) (fun h32 => ?_)
              · -- 225: x14 = (1 : Int32)
                refine mw_go mu_g173 (k := 1) (f1 := (227, [(7, .inl x14), (6, .inl x13), (3, .inl x), (0, .inr (.inr (some 92))), (1, .inl v), (2, .inl w), (4, .inl (rw_get H (m + 19) 4 (gi_sz H (m + 19)) w 0)), (5, .inl ((rw_get H (m + 19) 4 (gi_sz H (m + 19)) w 1) - (1 : Int32)))], [.inl ((rw_get H (m + 19) 4 (gi_sz H (m + 19)) w 1) - (1 : Int32))], Hsa)) (C := []) rfl trivial ?_
                refine mw_if (P := 0 < ((rw_get H (m + 19) 4 (gi_sz H (m + 19)) w 1) - (1 : Int32))) (a := 230) (b := 232) (fun _ => rfl) trivial (fun h33 => ?_) (fun h33 => ?_)
                · -- 230: 0 < ((rw_get H (m + 19) 4 (gi_sz H (m + 19)) w 1) - (1 : Int32))
                  refine mw_go mu_g173 (k := 1) (f1 := (231, [(7, .inl x14), (6, .inl x13), (3, .inl x), (0, .inr (.inr (some 92))), (1, .inl v), (2, .inl w), (4, .inl (rw_get H (m + 19) 4 (gi_sz H (m + 19)) w 0)), (5, .inl ((rw_get H (m + 19) 4 (gi_sz H (m + 19)) w 1) - (1 : Int32)))], [.inl (0 : Int32)], Hsa)) (C := []) rfl trivial ?_
                  exact mw_of (fun _ => mu_ret rfl (Or.inl rfl) ⟨_, Hsa, rfl, Or.inl rfl, hpa, hta, by omega⟩)
                · -- 232: not 0 < ((rw_get H (m + 19) 4 (gi_sz H (m + 19)) w 1) - (1 : Int32))
                  refine mw_go mu_g173 (k := 2) (f1 := (235, [(7, .inl x14), (6, .inl x13), (3, .inl x), (0, .inr (.inr (some 92))), (1, .inl v), (2, .inl w), (4, .inl (rw_get H (m + 19) 4 (gi_sz H (m + 19)) w 0)), (5, .inl ((rw_get H (m + 19) 4 (gi_sz H (m + 19)) w 1) - (1 : Int32)))], [.inl (3 : Int32), .inl x14], Hsa)) (C := []) rfl trivial ?_
                  refine mw_if (P := x14 = (3 : Int32)) (a := 238) (b := 242) (fun _ => rfl) trivial (fun h34 => absurd h34 h19) (fun _ => ?_)
                  refine mw_go mu_g173 (k := 2) (f1 := (245, [(7, .inl x14), (6, .inl x13), (3, .inl x), (0, .inr (.inr (some 92))), (1, .inl v), (2, .inl w), (4, .inl (rw_get H (m + 19) 4 (gi_sz H (m + 19)) w 0)), (5, .inl ((rw_get H (m + 19) 4 (gi_sz H (m + 19)) w 1) - (1 : Int32)))], [.inl (2 : Int32), .inl x14], Hsa)) (C := []) rfl trivial ?_
                  refine mw_if (P := x14 = (2 : Int32)) (a := 248) (b := 252) (fun _ => rfl) trivial (fun h35 => absurd h35 h25) (fun _ => ?_)
                  refine mw_go mu_g173 (k := 4) (f1 := (259, [(8, .inl (1 : Int32)), (7, .inl x14), (6, .inl x13), (3, .inl x), (0, .inr (.inr (some 92))), (1, .inl v), (2, .inl w), (4, .inl (rw_get H (m + 19) 4 (gi_sz H (m + 19)) w 0)), (5, .inl ((rw_get H (m + 19) 4 (gi_sz H (m + 19)) w 1) - (1 : Int32)))], [.inr (.inr (mu_r Hsa 92 2))], Hsa)) (C := [mu_is Hsa (some 92) 12]) rfl (show mu_is Hsa (some 92) 12 from hpa.1.is rfl) ?_
                  rw [hpa.2.2]
                  refine mw_go mu_g173 (k := 1) (f1 := (262, [(8, .inl (1 : Int32)), (7, .inl x14), (6, .inl x13), (3, .inl x), (0, .inr (.inr (some 92))), (1, .inl v), (2, .inl w), (4, .inl (rw_get H (m + 19) 4 (gi_sz H (m + 19)) w 0)), (5, .inl ((rw_get H (m + 19) 4 (gi_sz H (m + 19)) w 1) - (1 : Int32)))], [.inr (.inr (mu_r Hsa m 9))], Hsa)) (C := [mu_is Hsa (some m) 6]) rfl (show mu_is Hsa (some m) 6 from (show mu_is Hsa (some m) 6 from gi_im hpa.1 hpa.2.1)) ?_
                  rw [(show mu_r Hsa m 9 = some (m + 19) from (gi_mr hpa.1 hpa.2.1 (j := 9) (by decide)).trans (congrArg some (by omega)))]
                  refine mw_go mu_g173 (k := 3) (f1 := (266, [(8, .inl (1 : Int32)), (7, .inl x14), (6, .inl x13), (3, .inl x), (0, .inr (.inr (some 92))), (1, .inl v), (2, .inl w), (4, .inl (rw_get H (m + 19) 4 (gi_sz H (m + 19)) w 0)), (5, .inl ((rw_get H (m + 19) 4 (gi_sz H (m + 19)) w 1) - (1 : Int32)))], [.inl x14, .inl (2 : Int32), .inl w, .inr (.inr (some (m + 19)))], Hsa)) (C := []) rfl trivial ?_
                  refine mw_cV (fun _ => rfl) (show mu_is Hsa (some (m + 19)) 10 from (hpa.1.w (md_w9 hpa.2.1)).1) (gi_set_ok (d := (d + 1)) hpa.1 (md_w9 hpa.2.1) w x14 (j := 2) (by decide)) (fun H36 q36 => ?_)
                  obtain ⟨hp36, qt36, qz36⟩ := hpa.set (j := 9) (c := 2) (r := (m + 19)) (row := w) (v := x14) (by decide) (by omega) (by decide) rfl
                  rw [show rw_set Hsa (m + 19) (ps_W 9) (gi_sz Hsa (m + 19)) w 2 x14 = H36 from q36.symm] at hp36 qt36 qz36
                  have ht36 := hta.trans qt36
                  refine mw_go mu_g173 (k := 2) (f1 := (273, [(8, .inl (1 : Int32)), (7, .inl x14), (6, .inl x13), (3, .inl x), (0, .inr (.inr (some 92))), (1, .inl v), (2, .inl w), (4, .inl (rw_get H (m + 19) 4 (gi_sz H (m + 19)) w 0)), (5, .inl ((rw_get H (m + 19) 4 (gi_sz H (m + 19)) w 1) - (1 : Int32)))], [.inr (.inr (mu_r H36 92 2))], H36)) (C := [mu_is H36 (some 92) 12]) rfl (show mu_is H36 (some 92) 12 from hp36.1.is rfl) ?_
                  rw [hp36.2.2]
                  refine mw_go mu_g173 (k := 1) (f1 := (276, [(8, .inl (1 : Int32)), (7, .inl x14), (6, .inl x13), (3, .inl x), (0, .inr (.inr (some 92))), (1, .inl v), (2, .inl w), (4, .inl (rw_get H (m + 19) 4 (gi_sz H (m + 19)) w 0)), (5, .inl ((rw_get H (m + 19) 4 (gi_sz H (m + 19)) w 1) - (1 : Int32)))], [.inr (.inr (mu_r H36 m 9))], H36)) (C := [mu_is H36 (some m) 6]) rfl (show mu_is H36 (some m) 6 from (show mu_is H36 (some m) 6 from gi_im hp36.1 hp36.2.1)) ?_
                  rw [(show mu_r H36 m 9 = some (m + 19) from (gi_mr hp36.1 hp36.2.1 (j := 9) (by decide)).trans (congrArg some (by omega)))]
                  refine mw_go mu_g173 (k := 4) (f1 := (281, [(8, .inl (1 : Int32)), (7, .inl x14), (6, .inl x13), (3, .inl x), (0, .inr (.inr (some 92))), (1, .inl v), (2, .inl w), (4, .inl (rw_get H (m + 19) 4 (gi_sz H (m + 19)) w 0)), (5, .inl ((rw_get H (m + 19) 4 (gi_sz H (m + 19)) w 1) - (1 : Int32)))], [.inl x13, .inr (.inr (some 92)), .inl (3 : Int32), .inl w, .inr (.inr (some (m + 19)))], H36)) (C := []) rfl trivial ?_
                  refine mw_cI (fun _ => rfl) (show mu_is H36 (some 92) 12 from hp36.1.is rfl) (so_rowOf (d := d) hp36.1 x13) (fun x37 H37 q37 => ?_)
                  obtain rfl := q37
                  refine mw_go mu_g173 (k := 2) (f1 := (288, [(8, .inl (1 : Int32)), (7, .inl x14), (6, .inl x13), (3, .inl x), (0, .inr (.inr (some 92))), (1, .inl v), (2, .inl w), (4, .inl (rw_get H (m + 19) 4 (gi_sz H (m + 19)) w 0)), (5, .inl ((rw_get H (m + 19) 4 (gi_sz H (m + 19)) w 1) - (1 : Int32)))], [.inr (.inr (mu_r H36 92 2)), .inl x37, .inl (3 : Int32), .inl w, .inr (.inr (some (m + 19)))], H36)) (C := [mu_is H36 (some 92) 12]) rfl (show mu_is H36 (some 92) 12 from hp36.1.is rfl) ?_
                  rw [hp36.2.2]
                  refine mw_go mu_g173 (k := 1) (f1 := (291, [(8, .inl (1 : Int32)), (7, .inl x14), (6, .inl x13), (3, .inl x), (0, .inr (.inr (some 92))), (1, .inl v), (2, .inl w), (4, .inl (rw_get H (m + 19) 4 (gi_sz H (m + 19)) w 0)), (5, .inl ((rw_get H (m + 19) 4 (gi_sz H (m + 19)) w 1) - (1 : Int32)))], [.inr (.inr (mu_r H36 m 1)), .inl x37, .inl (3 : Int32), .inl w, .inr (.inr (some (m + 19)))], H36)) (C := [mu_is H36 (some m) 6]) rfl (show mu_is H36 (some m) 6 from (show mu_is H36 (some m) 6 from gi_im hp36.1 hp36.2.1)) ?_
                  rw [(show mu_r H36 m 1 = some (m + 3) from (gi_mr hp36.1 hp36.2.1 (j := 1) (by decide)).trans (congrArg some (by omega)))]
                  refine mw_go mu_g173 (k := 2) (f1 := (294, [(8, .inl (1 : Int32)), (7, .inl x14), (6, .inl x13), (3, .inl x), (0, .inr (.inr (some 92))), (1, .inl v), (2, .inl w), (4, .inl (rw_get H (m + 19) 4 (gi_sz H (m + 19)) w 0)), (5, .inl ((rw_get H (m + 19) 4 (gi_sz H (m + 19)) w 1) - (1 : Int32)))], [.inl (1 : Int32), .inl x, .inr (.inr (some (m + 3))), .inl x37, .inl (3 : Int32), .inl w, .inr (.inr (some (m + 19)))], H36)) (C := []) rfl trivial ?_
                  refine mw_cIe (fun _ => rfl) (show mu_is H36 (some (m + 3)) 10 from (hp36.1.w (md_w1 hp36.2.1)).1) (gi_get_ok (d := (d + 1)) (H := H36) hp36.1 (md_w1 hp36.2.1) x (j := 1) (by decide)) ?_
                  refine mw_go mu_g173 (k := 1) (f1 := (298, [(8, .inl (1 : Int32)), (7, .inl x14), (6, .inl x13), (3, .inl x), (0, .inr (.inr (some 92))), (1, .inl v), (2, .inl w), (4, .inl (rw_get H (m + 19) 4 (gi_sz H (m + 19)) w 0)), (5, .inl ((rw_get H (m + 19) 4 (gi_sz H (m + 19)) w 1) - (1 : Int32)))], [.inl (x37 - (rw_get H36 (m + 3) 11 (gi_sz H36 (m + 3)) x 1)), .inl (3 : Int32), .inl w, .inr (.inr (some (m + 19)))], H36)) (C := []) rfl trivial ?_
                  refine mw_cV (fun _ => rfl) (show mu_is H36 (some (m + 19)) 10 from (hp36.1.w (md_w9 hp36.2.1)).1) (gi_set_ok (d := (d + 1)) hp36.1 (md_w9 hp36.2.1) w (x37 - (rw_get H36 (m + 3) 11 (gi_sz H36 (m + 3)) x 1)) (j := 3) (by decide)) (fun H39 q39 => ?_)
                  obtain ⟨hp39, qt39, qz39⟩ := hp36.set (j := 9) (c := 3) (r := (m + 19)) (row := w) (v := (x37 - (rw_get H36 (m + 3) 11 (gi_sz H36 (m + 3)) x 1))) (by decide) (by omega) (by decide) rfl
                  rw [show rw_set H36 (m + 19) (ps_W 9) (gi_sz H36 (m + 19)) w 3 (x37 - (rw_get H36 (m + 3) 11 (gi_sz H36 (m + 3)) x 1)) = H39 from q39.symm] at hp39 qt39 qz39
                  have ht39 := ht36.trans qt39
                  refine mw_go mu_g173 (k := 1) (f1 := (302, [(8, .inl (1 : Int32)), (7, .inl x14), (6, .inl x13), (3, .inl x), (0, .inr (.inr (some 92))), (1, .inl v), (2, .inl w), (4, .inl (rw_get H (m + 19) 4 (gi_sz H (m + 19)) w 0)), (5, .inl ((rw_get H (m + 19) 4 (gi_sz H (m + 19)) w 1) - (1 : Int32)))], [.inl (1 : Int32)], H39)) (C := []) rfl trivial ?_
                  exact mw_of (fun _ => mu_ret rfl (Or.inr rfl) ⟨_, H39, rfl, Or.inr rfl, hp39, ht39, by omega⟩)
              · -- 230: not x14 = (1 : Int32)
                refine mw_go mu_g173 (k := 1) (f1 := (231, [(7, .inl x14), (6, .inl x13), (3, .inl x), (0, .inr (.inr (some 92))), (1, .inl v), (2, .inl w), (4, .inl (rw_get H (m + 19) 4 (gi_sz H (m + 19)) w 0)), (5, .inl ((rw_get H (m + 19) 4 (gi_sz H (m + 19)) w 1) - (1 : Int32)))], [.inl (0 : Int32)], Hsa)) (C := []) rfl trivial ?_
                exact mw_of (fun _ => mu_ret rfl (Or.inl rfl) ⟨_, Hsa, rfl, Or.inl rfl, hpa, hta, by omega⟩)
        · -- 192: not (rw_get Hsa (m + 19) 4 (gi_sz Hsa (m + 19)) w 3) < 0
          refine mw_go mu_g173 (k := 2) (f1 := (196, [(7, .inl x14), (6, .inl x13), (3, .inl x), (0, .inr (.inr (some 92))), (1, .inl v), (2, .inl w), (4, .inl (rw_get H (m + 19) 4 (gi_sz H (m + 19)) w 0)), (5, .inl ((rw_get H (m + 19) 4 (gi_sz H (m + 19)) w 1) - (1 : Int32)))], [.inr (.inr (mu_r Hsa 92 2))], Hsa)) (C := [mu_is Hsa (some 92) 12]) rfl (show mu_is Hsa (some 92) 12 from hpa.1.is rfl) ?_
          rw [hpa.2.2]
          refine mw_go mu_g173 (k := 1) (f1 := (199, [(7, .inl x14), (6, .inl x13), (3, .inl x), (0, .inr (.inr (some 92))), (1, .inl v), (2, .inl w), (4, .inl (rw_get H (m + 19) 4 (gi_sz H (m + 19)) w 0)), (5, .inl ((rw_get H (m + 19) 4 (gi_sz H (m + 19)) w 1) - (1 : Int32)))], [.inr (.inr (mu_r Hsa m 9))], Hsa)) (C := [mu_is Hsa (some m) 6]) rfl (show mu_is Hsa (some m) 6 from (show mu_is Hsa (some m) 6 from gi_im hpa.1 hpa.2.1)) ?_
          rw [(show mu_r Hsa m 9 = some (m + 19) from (gi_mr hpa.1 hpa.2.1 (j := 9) (by decide)).trans (congrArg some (by omega)))]
          refine mw_go mu_g173 (k := 3) (f1 := (202, [(7, .inl x14), (6, .inl x13), (3, .inl x), (0, .inr (.inr (some 92))), (1, .inl v), (2, .inl w), (4, .inl (rw_get H (m + 19) 4 (gi_sz H (m + 19)) w 0)), (5, .inl ((rw_get H (m + 19) 4 (gi_sz H (m + 19)) w 1) - (1 : Int32)))], [.inl (5 : Int32), .inl (2 : Int32), .inl w, .inr (.inr (some (m + 19)))], Hsa)) (C := []) rfl trivial ?_
          refine mw_cV (fun _ => rfl) (show mu_is Hsa (some (m + 19)) 10 from (hpa.1.w (md_w9 hpa.2.1)).1) (gi_set_ok (d := (d + 1)) hpa.1 (md_w9 hpa.2.1) w (5 : Int32) (j := 2) (by decide)) (fun H40 q40 => ?_)
          obtain ⟨hp40, qt40, qz40⟩ := hpa.set (j := 9) (c := 2) (r := (m + 19)) (row := w) (v := (5 : Int32)) (by decide) (by omega) (by decide) rfl
          rw [show rw_set Hsa (m + 19) (ps_W 9) (gi_sz Hsa (m + 19)) w 2 (5 : Int32) = H40 from q40.symm] at hp40 qt40 qz40
          have ht40 := hta.trans qt40
          refine mw_go mu_g173 (k := 1) (f1 := (206, [(7, .inl x14), (6, .inl x13), (3, .inl x), (0, .inr (.inr (some 92))), (1, .inl v), (2, .inl w), (4, .inl (rw_get H (m + 19) 4 (gi_sz H (m + 19)) w 0)), (5, .inl ((rw_get H (m + 19) 4 (gi_sz H (m + 19)) w 1) - (1 : Int32)))], [.inl (1 : Int32)], H40)) (C := []) rfl trivial ?_
          exact mw_of (fun _ => mu_ret rfl (Or.inr rfl) ⟨_, H40, rfl, Or.inr rfl, hp40, ht40, by omega⟩)
      · -- 207: not ((rw_get H (m + 19) 4 (gi_sz H (m + 19)) w 1) - (1 : Int32)) = 0
        refine mw_go mu_g173 (k := 2) (f1 := (210, [(7, .inl x14), (6, .inl x13), (3, .inl x), (0, .inr (.inr (some 92))), (1, .inl v), (2, .inl w), (4, .inl (rw_get H (m + 19) 4 (gi_sz H (m + 19)) w 0)), (5, .inl ((rw_get H (m + 19) 4 (gi_sz H (m + 19)) w 1) - (1 : Int32)))], [.inl (3 : Int32), .inl x14], Hsa)) (C := []) rfl trivial ?_
        refine mw_if (P := x14 = (3 : Int32)) (a := 232) (b := 213) (fun _ => rfl) trivial (fun h41 => ?_) (fun h41 => ?_)
        · -- 232: x14 = (3 : Int32)
          refine mw_go mu_g173 (k := 2) (f1 := (235, [(7, .inl x14), (6, .inl x13), (3, .inl x), (0, .inr (.inr (some 92))), (1, .inl v), (2, .inl w), (4, .inl (rw_get H (m + 19) 4 (gi_sz H (m + 19)) w 0)), (5, .inl ((rw_get H (m + 19) 4 (gi_sz H (m + 19)) w 1) - (1 : Int32)))], [.inl (3 : Int32), .inl x14], Hsa)) (C := []) rfl trivial ?_
          refine mw_if (P := x14 = (3 : Int32)) (a := 238) (b := 242) (fun _ => rfl) trivial (fun _ => ?_) (fun h42 => absurd h41 h42)
          refine mw_go mu_g173 (k := 5) (f1 := (259, [(8, .inl (2 : Int32)), (7, .inl x14), (6, .inl x13), (3, .inl x), (0, .inr (.inr (some 92))), (1, .inl v), (2, .inl w), (4, .inl (rw_get H (m + 19) 4 (gi_sz H (m + 19)) w 0)), (5, .inl ((rw_get H (m + 19) 4 (gi_sz H (m + 19)) w 1) - (1 : Int32)))], [.inr (.inr (mu_r Hsa 92 2))], Hsa)) (C := [mu_is Hsa (some 92) 12]) rfl (show mu_is Hsa (some 92) 12 from hpa.1.is rfl) ?_
          rw [hpa.2.2]
          refine mw_go mu_g173 (k := 1) (f1 := (262, [(8, .inl (2 : Int32)), (7, .inl x14), (6, .inl x13), (3, .inl x), (0, .inr (.inr (some 92))), (1, .inl v), (2, .inl w), (4, .inl (rw_get H (m + 19) 4 (gi_sz H (m + 19)) w 0)), (5, .inl ((rw_get H (m + 19) 4 (gi_sz H (m + 19)) w 1) - (1 : Int32)))], [.inr (.inr (mu_r Hsa m 9))], Hsa)) (C := [mu_is Hsa (some m) 6]) rfl (show mu_is Hsa (some m) 6 from (show mu_is Hsa (some m) 6 from gi_im hpa.1 hpa.2.1)) ?_
          rw [(show mu_r Hsa m 9 = some (m + 19) from (gi_mr hpa.1 hpa.2.1 (j := 9) (by decide)).trans (congrArg some (by omega)))]
          refine mw_go mu_g173 (k := 3) (f1 := (266, [(8, .inl (2 : Int32)), (7, .inl x14), (6, .inl x13), (3, .inl x), (0, .inr (.inr (some 92))), (1, .inl v), (2, .inl w), (4, .inl (rw_get H (m + 19) 4 (gi_sz H (m + 19)) w 0)), (5, .inl ((rw_get H (m + 19) 4 (gi_sz H (m + 19)) w 1) - (1 : Int32)))], [.inl x14, .inl (2 : Int32), .inl w, .inr (.inr (some (m + 19)))], Hsa)) (C := []) rfl trivial ?_
          refine mw_cV (fun _ => rfl) (show mu_is Hsa (some (m + 19)) 10 from (hpa.1.w (md_w9 hpa.2.1)).1) (gi_set_ok (d := (d + 1)) hpa.1 (md_w9 hpa.2.1) w x14 (j := 2) (by decide)) (fun H43 q43 => ?_)
          obtain ⟨hp43, qt43, qz43⟩ := hpa.set (j := 9) (c := 2) (r := (m + 19)) (row := w) (v := x14) (by decide) (by omega) (by decide) rfl
          rw [show rw_set Hsa (m + 19) (ps_W 9) (gi_sz Hsa (m + 19)) w 2 x14 = H43 from q43.symm] at hp43 qt43 qz43
          have ht43 := hta.trans qt43
          refine mw_go mu_g173 (k := 2) (f1 := (273, [(8, .inl (2 : Int32)), (7, .inl x14), (6, .inl x13), (3, .inl x), (0, .inr (.inr (some 92))), (1, .inl v), (2, .inl w), (4, .inl (rw_get H (m + 19) 4 (gi_sz H (m + 19)) w 0)), (5, .inl ((rw_get H (m + 19) 4 (gi_sz H (m + 19)) w 1) - (1 : Int32)))], [.inr (.inr (mu_r H43 92 2))], H43)) (C := [mu_is H43 (some 92) 12]) rfl (show mu_is H43 (some 92) 12 from hp43.1.is rfl) ?_
          rw [hp43.2.2]
          refine mw_go mu_g173 (k := 1) (f1 := (276, [(8, .inl (2 : Int32)), (7, .inl x14), (6, .inl x13), (3, .inl x), (0, .inr (.inr (some 92))), (1, .inl v), (2, .inl w), (4, .inl (rw_get H (m + 19) 4 (gi_sz H (m + 19)) w 0)), (5, .inl ((rw_get H (m + 19) 4 (gi_sz H (m + 19)) w 1) - (1 : Int32)))], [.inr (.inr (mu_r H43 m 9))], H43)) (C := [mu_is H43 (some m) 6]) rfl (show mu_is H43 (some m) 6 from (show mu_is H43 (some m) 6 from gi_im hp43.1 hp43.2.1)) ?_
          rw [(show mu_r H43 m 9 = some (m + 19) from (gi_mr hp43.1 hp43.2.1 (j := 9) (by decide)).trans (congrArg some (by omega)))]
          refine mw_go mu_g173 (k := 4) (f1 := (281, [(8, .inl (2 : Int32)), (7, .inl x14), (6, .inl x13), (3, .inl x), (0, .inr (.inr (some 92))), (1, .inl v), (2, .inl w), (4, .inl (rw_get H (m + 19) 4 (gi_sz H (m + 19)) w 0)), (5, .inl ((rw_get H (m + 19) 4 (gi_sz H (m + 19)) w 1) - (1 : Int32)))], [.inl x13, .inr (.inr (some 92)), .inl (3 : Int32), .inl w, .inr (.inr (some (m + 19)))], H43)) (C := []) rfl trivial ?_
          refine mw_cI (fun _ => rfl) (show mu_is H43 (some 92) 12 from hp43.1.is rfl) (so_rowOf (d := d) hp43.1 x13) (fun x44 H44 q44 => ?_)
          obtain rfl := q44
          refine mw_go mu_g173 (k := 2) (f1 := (288, [(8, .inl (2 : Int32)), (7, .inl x14), (6, .inl x13), (3, .inl x), (0, .inr (.inr (some 92))), (1, .inl v), (2, .inl w), (4, .inl (rw_get H (m + 19) 4 (gi_sz H (m + 19)) w 0)), (5, .inl ((rw_get H (m + 19) 4 (gi_sz H (m + 19)) w 1) - (1 : Int32)))], [.inr (.inr (mu_r H43 92 2)), .inl x44, .inl (3 : Int32), .inl w, .inr (.inr (some (m + 19)))], H43)) (C := [mu_is H43 (some 92) 12]) rfl (show mu_is H43 (some 92) 12 from hp43.1.is rfl) ?_
          rw [hp43.2.2]
          refine mw_go mu_g173 (k := 1) (f1 := (291, [(8, .inl (2 : Int32)), (7, .inl x14), (6, .inl x13), (3, .inl x), (0, .inr (.inr (some 92))), (1, .inl v), (2, .inl w), (4, .inl (rw_get H (m + 19) 4 (gi_sz H (m + 19)) w 0)), (5, .inl ((rw_get H (m + 19) 4 (gi_sz H (m + 19)) w 1) - (1 : Int32)))], [.inr (.inr (mu_r H43 m 1)), .inl x44, .inl (3 : Int32), .inl w, .inr (.inr (some (m + 19)))], H43)) (C := [mu_is H43 (some m) 6]) rfl (show mu_is H43 (some m) 6 from (show mu_is H43 (some m) 6 from gi_im hp43.1 hp43.2.1)) ?_
          rw [(show mu_r H43 m 1 = some (m + 3) from (gi_mr hp43.1 hp43.2.1 (j := 1) (by decide)).trans (congrArg some (by omega)))]
          refine mw_go mu_g173 (k := 2) (f1 := (294, [(8, .inl (2 : Int32)), (7, .inl x14), (6, .inl x13), (3, .inl x), (0, .inr (.inr (some 92))), (1, .inl v), (2, .inl w), (4, .inl (rw_get H (m + 19) 4 (gi_sz H (m + 19)) w 0)), (5, .inl ((rw_get H (m + 19) 4 (gi_sz H (m + 19)) w 1) - (1 : Int32)))], [.inl (2 : Int32), .inl x, .inr (.inr (some (m + 3))), .inl x44, .inl (3 : Int32), .inl w, .inr (.inr (some (m + 19)))], H43)) (C := []) rfl trivial ?_
          refine mw_cIe (fun _ => rfl) (show mu_is H43 (some (m + 3)) 10 from (hp43.1.w (md_w1 hp43.2.1)).1) (gi_get_ok (d := (d + 1)) (H := H43) hp43.1 (md_w1 hp43.2.1) x (j := 2) (by decide)) ?_
          refine mw_go mu_g173 (k := 1) (f1 := (298, [(8, .inl (2 : Int32)), (7, .inl x14), (6, .inl x13), (3, .inl x), (0, .inr (.inr (some 92))), (1, .inl v), (2, .inl w), (4, .inl (rw_get H (m + 19) 4 (gi_sz H (m + 19)) w 0)), (5, .inl ((rw_get H (m + 19) 4 (gi_sz H (m + 19)) w 1) - (1 : Int32)))], [.inl (x44 - (rw_get H43 (m + 3) 11 (gi_sz H43 (m + 3)) x 2)), .inl (3 : Int32), .inl w, .inr (.inr (some (m + 19)))], H43)) (C := []) rfl trivial ?_
          refine mw_cV (fun _ => rfl) (show mu_is H43 (some (m + 19)) 10 from (hp43.1.w (md_w9 hp43.2.1)).1) (gi_set_ok (d := (d + 1)) hp43.1 (md_w9 hp43.2.1) w (x44 - (rw_get H43 (m + 3) 11 (gi_sz H43 (m + 3)) x 2)) (j := 3) (by decide)) (fun H46 q46 => ?_)
          obtain ⟨hp46, qt46, qz46⟩ := hp43.set (j := 9) (c := 3) (r := (m + 19)) (row := w) (v := (x44 - (rw_get H43 (m + 3) 11 (gi_sz H43 (m + 3)) x 2))) (by decide) (by omega) (by decide) rfl
          rw [show rw_set H43 (m + 19) (ps_W 9) (gi_sz H43 (m + 19)) w 3 (x44 - (rw_get H43 (m + 3) 11 (gi_sz H43 (m + 3)) x 2)) = H46 from q46.symm] at hp46 qt46 qz46
          have ht46 := ht43.trans qt46
          refine mw_go mu_g173 (k := 1) (f1 := (302, [(8, .inl (2 : Int32)), (7, .inl x14), (6, .inl x13), (3, .inl x), (0, .inr (.inr (some 92))), (1, .inl v), (2, .inl w), (4, .inl (rw_get H (m + 19) 4 (gi_sz H (m + 19)) w 0)), (5, .inl ((rw_get H (m + 19) 4 (gi_sz H (m + 19)) w 1) - (1 : Int32)))], [.inl (1 : Int32)], H46)) (C := []) rfl trivial ?_
          exact mw_of (fun _ => mu_ret rfl (Or.inr rfl) ⟨_, H46, rfl, Or.inr rfl, hp46, ht46, by omega⟩)
        · -- 213: not x14 = (3 : Int32)
          refine mw_go mu_g173 (k := 2) (f1 := (216, [(7, .inl x14), (6, .inl x13), (3, .inl x), (0, .inr (.inr (some 92))), (1, .inl v), (2, .inl w), (4, .inl (rw_get H (m + 19) 4 (gi_sz H (m + 19)) w 0)), (5, .inl ((rw_get H (m + 19) 4 (gi_sz H (m + 19)) w 1) - (1 : Int32)))], [.inl (2 : Int32), .inl x14], Hsa)) (C := []) rfl trivial ?_
          refine mw_if (P := x14 = (2 : Int32)) (a := 232) (b := 219) (fun _ => rfl) trivial (fun h47 => ?_) (fun h47 => ?_)
          · -- 232: x14 = (2 : Int32)
            refine mw_go mu_g173 (k := 2) (f1 := (235, [(7, .inl x14), (6, .inl x13), (3, .inl x), (0, .inr (.inr (some 92))), (1, .inl v), (2, .inl w), (4, .inl (rw_get H (m + 19) 4 (gi_sz H (m + 19)) w 0)), (5, .inl ((rw_get H (m + 19) 4 (gi_sz H (m + 19)) w 1) - (1 : Int32)))], [.inl (3 : Int32), .inl x14], Hsa)) (C := []) rfl trivial ?_
            refine mw_if (P := x14 = (3 : Int32)) (a := 238) (b := 242) (fun _ => rfl) trivial (fun h48 => absurd h48 h41) (fun _ => ?_)
            refine mw_go mu_g173 (k := 2) (f1 := (245, [(7, .inl x14), (6, .inl x13), (3, .inl x), (0, .inr (.inr (some 92))), (1, .inl v), (2, .inl w), (4, .inl (rw_get H (m + 19) 4 (gi_sz H (m + 19)) w 0)), (5, .inl ((rw_get H (m + 19) 4 (gi_sz H (m + 19)) w 1) - (1 : Int32)))], [.inl (2 : Int32), .inl x14], Hsa)) (C := []) rfl trivial ?_
            refine mw_if (P := x14 = (2 : Int32)) (a := 248) (b := 252) (fun _ => rfl) trivial (fun _ => ?_) (fun h49 => absurd h47 h49)
            refine mw_go mu_g173 (k := 5) (f1 := (259, [(8, .inl (3 : Int32)), (7, .inl x14), (6, .inl x13), (3, .inl x), (0, .inr (.inr (some 92))), (1, .inl v), (2, .inl w), (4, .inl (rw_get H (m + 19) 4 (gi_sz H (m + 19)) w 0)), (5, .inl ((rw_get H (m + 19) 4 (gi_sz H (m + 19)) w 1) - (1 : Int32)))], [.inr (.inr (mu_r Hsa 92 2))], Hsa)) (C := [mu_is Hsa (some 92) 12]) rfl (show mu_is Hsa (some 92) 12 from hpa.1.is rfl) ?_
            rw [hpa.2.2]
            refine mw_go mu_g173 (k := 1) (f1 := (262, [(8, .inl (3 : Int32)), (7, .inl x14), (6, .inl x13), (3, .inl x), (0, .inr (.inr (some 92))), (1, .inl v), (2, .inl w), (4, .inl (rw_get H (m + 19) 4 (gi_sz H (m + 19)) w 0)), (5, .inl ((rw_get H (m + 19) 4 (gi_sz H (m + 19)) w 1) - (1 : Int32)))], [.inr (.inr (mu_r Hsa m 9))], Hsa)) (C := [mu_is Hsa (some m) 6]) rfl (show mu_is Hsa (some m) 6 from (show mu_is Hsa (some m) 6 from gi_im hpa.1 hpa.2.1)) ?_
            rw [(show mu_r Hsa m 9 = some (m + 19) from (gi_mr hpa.1 hpa.2.1 (j := 9) (by decide)).trans (congrArg some (by omega)))]
            refine mw_go mu_g173 (k := 3) (f1 := (266, [(8, .inl (3 : Int32)), (7, .inl x14), (6, .inl x13), (3, .inl x), (0, .inr (.inr (some 92))), (1, .inl v), (2, .inl w), (4, .inl (rw_get H (m + 19) 4 (gi_sz H (m + 19)) w 0)), (5, .inl ((rw_get H (m + 19) 4 (gi_sz H (m + 19)) w 1) - (1 : Int32)))], [.inl x14, .inl (2 : Int32), .inl w, .inr (.inr (some (m + 19)))], Hsa)) (C := []) rfl trivial ?_
            refine mw_cV (fun _ => rfl) (show mu_is Hsa (some (m + 19)) 10 from (hpa.1.w (md_w9 hpa.2.1)).1) (gi_set_ok (d := (d + 1)) hpa.1 (md_w9 hpa.2.1) w x14 (j := 2) (by decide)) (fun H50 q50 => ?_)
            obtain ⟨hp50, qt50, qz50⟩ := hpa.set (j := 9) (c := 2) (r := (m + 19)) (row := w) (v := x14) (by decide) (by omega) (by decide) rfl
            rw [show rw_set Hsa (m + 19) (ps_W 9) (gi_sz Hsa (m + 19)) w 2 x14 = H50 from q50.symm] at hp50 qt50 qz50
            have ht50 := hta.trans qt50
            refine mw_go mu_g173 (k := 2) (f1 := (273, [(8, .inl (3 : Int32)), (7, .inl x14), (6, .inl x13), (3, .inl x), (0, .inr (.inr (some 92))), (1, .inl v), (2, .inl w), (4, .inl (rw_get H (m + 19) 4 (gi_sz H (m + 19)) w 0)), (5, .inl ((rw_get H (m + 19) 4 (gi_sz H (m + 19)) w 1) - (1 : Int32)))], [.inr (.inr (mu_r H50 92 2))], H50)) (C := [mu_is H50 (some 92) 12]) rfl (show mu_is H50 (some 92) 12 from hp50.1.is rfl) ?_
            rw [hp50.2.2]
            refine mw_go mu_g173 (k := 1) (f1 := (276, [(8, .inl (3 : Int32)), (7, .inl x14), (6, .inl x13), (3, .inl x), (0, .inr (.inr (some 92))), (1, .inl v), (2, .inl w), (4, .inl (rw_get H (m + 19) 4 (gi_sz H (m + 19)) w 0)), (5, .inl ((rw_get H (m + 19) 4 (gi_sz H (m + 19)) w 1) - (1 : Int32)))], [.inr (.inr (mu_r H50 m 9))], H50)) (C := [mu_is H50 (some m) 6]) rfl (show mu_is H50 (some m) 6 from (show mu_is H50 (some m) 6 from gi_im hp50.1 hp50.2.1)) ?_
            rw [(show mu_r H50 m 9 = some (m + 19) from (gi_mr hp50.1 hp50.2.1 (j := 9) (by decide)).trans (congrArg some (by omega)))]
            refine mw_go mu_g173 (k := 4) (f1 := (281, [(8, .inl (3 : Int32)), (7, .inl x14), (6, .inl x13), (3, .inl x), (0, .inr (.inr (some 92))), (1, .inl v), (2, .inl w), (4, .inl (rw_get H (m + 19) 4 (gi_sz H (m + 19)) w 0)), (5, .inl ((rw_get H (m + 19) 4 (gi_sz H (m + 19)) w 1) - (1 : Int32)))], [.inl x13, .inr (.inr (some 92)), .inl (3 : Int32), .inl w, .inr (.inr (some (m + 19)))], H50)) (C := []) rfl trivial ?_
            refine mw_cI (fun _ => rfl) (show mu_is H50 (some 92) 12 from hp50.1.is rfl) (so_rowOf (d := d) hp50.1 x13) (fun x51 H51 q51 => ?_)
            obtain rfl := q51
            refine mw_go mu_g173 (k := 2) (f1 := (288, [(8, .inl (3 : Int32)), (7, .inl x14), (6, .inl x13), (3, .inl x), (0, .inr (.inr (some 92))), (1, .inl v), (2, .inl w), (4, .inl (rw_get H (m + 19) 4 (gi_sz H (m + 19)) w 0)), (5, .inl ((rw_get H (m + 19) 4 (gi_sz H (m + 19)) w 1) - (1 : Int32)))], [.inr (.inr (mu_r H50 92 2)), .inl x51, .inl (3 : Int32), .inl w, .inr (.inr (some (m + 19)))], H50)) (C := [mu_is H50 (some 92) 12]) rfl (show mu_is H50 (some 92) 12 from hp50.1.is rfl) ?_
            rw [hp50.2.2]
            refine mw_go mu_g173 (k := 1) (f1 := (291, [(8, .inl (3 : Int32)), (7, .inl x14), (6, .inl x13), (3, .inl x), (0, .inr (.inr (some 92))), (1, .inl v), (2, .inl w), (4, .inl (rw_get H (m + 19) 4 (gi_sz H (m + 19)) w 0)), (5, .inl ((rw_get H (m + 19) 4 (gi_sz H (m + 19)) w 1) - (1 : Int32)))], [.inr (.inr (mu_r H50 m 1)), .inl x51, .inl (3 : Int32), .inl w, .inr (.inr (some (m + 19)))], H50)) (C := [mu_is H50 (some m) 6]) rfl (show mu_is H50 (some m) 6 from (show mu_is H50 (some m) 6 from gi_im hp50.1 hp50.2.1)) ?_
            rw [(show mu_r H50 m 1 = some (m + 3) from (gi_mr hp50.1 hp50.2.1 (j := 1) (by decide)).trans (congrArg some (by omega)))]
            refine mw_go mu_g173 (k := 2) (f1 := (294, [(8, .inl (3 : Int32)), (7, .inl x14), (6, .inl x13), (3, .inl x), (0, .inr (.inr (some 92))), (1, .inl v), (2, .inl w), (4, .inl (rw_get H (m + 19) 4 (gi_sz H (m + 19)) w 0)), (5, .inl ((rw_get H (m + 19) 4 (gi_sz H (m + 19)) w 1) - (1 : Int32)))], [.inl (3 : Int32), .inl x, .inr (.inr (some (m + 3))), .inl x51, .inl (3 : Int32), .inl w, .inr (.inr (some (m + 19)))], H50)) (C := []) rfl trivial ?_
            refine mw_cIe (fun _ => rfl) (show mu_is H50 (some (m + 3)) 10 from (hp50.1.w (md_w1 hp50.2.1)).1) (gi_get_ok (d := (d + 1)) (H := H50) hp50.1 (md_w1 hp50.2.1) x (j := 3) (by decide)) ?_
            refine mw_go mu_g173 (k := 1) (f1 := (298, [(8, .inl (3 : Int32)), (7, .inl x14), (6, .inl x13), (3, .inl x), (0, .inr (.inr (some 92))), (1, .inl v), (2, .inl w), (4, .inl (rw_get H (m + 19) 4 (gi_sz H (m + 19)) w 0)), (5, .inl ((rw_get H (m + 19) 4 (gi_sz H (m + 19)) w 1) - (1 : Int32)))], [.inl (x51 - (rw_get H50 (m + 3) 11 (gi_sz H50 (m + 3)) x 3)), .inl (3 : Int32), .inl w, .inr (.inr (some (m + 19)))], H50)) (C := []) rfl trivial ?_
            refine mw_cV (fun _ => rfl) (show mu_is H50 (some (m + 19)) 10 from (hp50.1.w (md_w9 hp50.2.1)).1) (gi_set_ok (d := (d + 1)) hp50.1 (md_w9 hp50.2.1) w (x51 - (rw_get H50 (m + 3) 11 (gi_sz H50 (m + 3)) x 3)) (j := 3) (by decide)) (fun H53 q53 => ?_)
            obtain ⟨hp53, qt53, qz53⟩ := hp50.set (j := 9) (c := 3) (r := (m + 19)) (row := w) (v := (x51 - (rw_get H50 (m + 3) 11 (gi_sz H50 (m + 3)) x 3))) (by decide) (by omega) (by decide) rfl
            rw [show rw_set H50 (m + 19) (ps_W 9) (gi_sz H50 (m + 19)) w 3 (x51 - (rw_get H50 (m + 3) 11 (gi_sz H50 (m + 3)) x 3)) = H53 from q53.symm] at hp53 qt53 qz53
            have ht53 := ht50.trans qt53
            refine mw_go mu_g173 (k := 1) (f1 := (302, [(8, .inl (3 : Int32)), (7, .inl x14), (6, .inl x13), (3, .inl x), (0, .inr (.inr (some 92))), (1, .inl v), (2, .inl w), (4, .inl (rw_get H (m + 19) 4 (gi_sz H (m + 19)) w 0)), (5, .inl ((rw_get H (m + 19) 4 (gi_sz H (m + 19)) w 1) - (1 : Int32)))], [.inl (1 : Int32)], H53)) (C := []) rfl trivial ?_
            exact mw_of (fun _ => mu_ret rfl (Or.inr rfl) ⟨_, H53, rfl, Or.inr rfl, hp53, ht53, by omega⟩)
          · -- 219: not x14 = (2 : Int32)
            refine mw_go mu_g173 (k := 2) (f1 := (222, [(7, .inl x14), (6, .inl x13), (3, .inl x), (0, .inr (.inr (some 92))), (1, .inl v), (2, .inl w), (4, .inl (rw_get H (m + 19) 4 (gi_sz H (m + 19)) w 0)), (5, .inl ((rw_get H (m + 19) 4 (gi_sz H (m + 19)) w 1) - (1 : Int32)))], [.inl (1 : Int32), .inl x14], Hsa)) (C := []) rfl trivial ?_
            refine mw_if (P := x14 = (1 : Int32)) (a := 225) (b := 230) (fun _ => rfl) trivial (fun h54 => ?_) (fun h54 => ?_)
            · -- 225: x14 = (1 : Int32)
              refine mw_go mu_g173 (k := 1) (f1 := (227, [(7, .inl x14), (6, .inl x13), (3, .inl x), (0, .inr (.inr (some 92))), (1, .inl v), (2, .inl w), (4, .inl (rw_get H (m + 19) 4 (gi_sz H (m + 19)) w 0)), (5, .inl ((rw_get H (m + 19) 4 (gi_sz H (m + 19)) w 1) - (1 : Int32)))], [.inl ((rw_get H (m + 19) 4 (gi_sz H (m + 19)) w 1) - (1 : Int32))], Hsa)) (C := []) rfl trivial ?_
              refine mw_if (P := 0 < ((rw_get H (m + 19) 4 (gi_sz H (m + 19)) w 1) - (1 : Int32))) (a := 230) (b := 232) (fun _ => rfl) trivial (fun h55 => ?_) (fun h55 => ?_)
              · -- 230: 0 < ((rw_get H (m + 19) 4 (gi_sz H (m + 19)) w 1) - (1 : Int32))
                refine mw_go mu_g173 (k := 1) (f1 := (231, [(7, .inl x14), (6, .inl x13), (3, .inl x), (0, .inr (.inr (some 92))), (1, .inl v), (2, .inl w), (4, .inl (rw_get H (m + 19) 4 (gi_sz H (m + 19)) w 0)), (5, .inl ((rw_get H (m + 19) 4 (gi_sz H (m + 19)) w 1) - (1 : Int32)))], [.inl (0 : Int32)], Hsa)) (C := []) rfl trivial ?_
                exact mw_of (fun _ => mu_ret rfl (Or.inl rfl) ⟨_, Hsa, rfl, Or.inl rfl, hpa, hta, by omega⟩)
              · -- 232: not 0 < ((rw_get H (m + 19) 4 (gi_sz H (m + 19)) w 1) - (1 : Int32))
                refine mw_go mu_g173 (k := 2) (f1 := (235, [(7, .inl x14), (6, .inl x13), (3, .inl x), (0, .inr (.inr (some 92))), (1, .inl v), (2, .inl w), (4, .inl (rw_get H (m + 19) 4 (gi_sz H (m + 19)) w 0)), (5, .inl ((rw_get H (m + 19) 4 (gi_sz H (m + 19)) w 1) - (1 : Int32)))], [.inl (3 : Int32), .inl x14], Hsa)) (C := []) rfl trivial ?_
                refine mw_if (P := x14 = (3 : Int32)) (a := 238) (b := 242) (fun _ => rfl) trivial (fun h56 => absurd h56 h41) (fun _ => ?_)
                refine mw_go mu_g173 (k := 2) (f1 := (245, [(7, .inl x14), (6, .inl x13), (3, .inl x), (0, .inr (.inr (some 92))), (1, .inl v), (2, .inl w), (4, .inl (rw_get H (m + 19) 4 (gi_sz H (m + 19)) w 0)), (5, .inl ((rw_get H (m + 19) 4 (gi_sz H (m + 19)) w 1) - (1 : Int32)))], [.inl (2 : Int32), .inl x14], Hsa)) (C := []) rfl trivial ?_
                refine mw_if (P := x14 = (2 : Int32)) (a := 248) (b := 252) (fun _ => rfl) trivial (fun h57 => absurd h57 h47) (fun _ => ?_)
                refine mw_go mu_g173 (k := 4) (f1 := (259, [(8, .inl (1 : Int32)), (7, .inl x14), (6, .inl x13), (3, .inl x), (0, .inr (.inr (some 92))), (1, .inl v), (2, .inl w), (4, .inl (rw_get H (m + 19) 4 (gi_sz H (m + 19)) w 0)), (5, .inl ((rw_get H (m + 19) 4 (gi_sz H (m + 19)) w 1) - (1 : Int32)))], [.inr (.inr (mu_r Hsa 92 2))], Hsa)) (C := [mu_is Hsa (some 92) 12]) rfl (show mu_is Hsa (some 92) 12 from hpa.1.is rfl) ?_
                rw [hpa.2.2]
                refine mw_go mu_g173 (k := 1) (f1 := (262, [(8, .inl (1 : Int32)), (7, .inl x14), (6, .inl x13), (3, .inl x), (0, .inr (.inr (some 92))), (1, .inl v), (2, .inl w), (4, .inl (rw_get H (m + 19) 4 (gi_sz H (m + 19)) w 0)), (5, .inl ((rw_get H (m + 19) 4 (gi_sz H (m + 19)) w 1) - (1 : Int32)))], [.inr (.inr (mu_r Hsa m 9))], Hsa)) (C := [mu_is Hsa (some m) 6]) rfl (show mu_is Hsa (some m) 6 from (show mu_is Hsa (some m) 6 from gi_im hpa.1 hpa.2.1)) ?_
                rw [(show mu_r Hsa m 9 = some (m + 19) from (gi_mr hpa.1 hpa.2.1 (j := 9) (by decide)).trans (congrArg some (by omega)))]
                refine mw_go mu_g173 (k := 3) (f1 := (266, [(8, .inl (1 : Int32)), (7, .inl x14), (6, .inl x13), (3, .inl x), (0, .inr (.inr (some 92))), (1, .inl v), (2, .inl w), (4, .inl (rw_get H (m + 19) 4 (gi_sz H (m + 19)) w 0)), (5, .inl ((rw_get H (m + 19) 4 (gi_sz H (m + 19)) w 1) - (1 : Int32)))], [.inl x14, .inl (2 : Int32), .inl w, .inr (.inr (some (m + 19)))], Hsa)) (C := []) rfl trivial ?_
                refine mw_cV (fun _ => rfl) (show mu_is Hsa (some (m + 19)) 10 from (hpa.1.w (md_w9 hpa.2.1)).1) (gi_set_ok (d := (d + 1)) hpa.1 (md_w9 hpa.2.1) w x14 (j := 2) (by decide)) (fun H58 q58 => ?_)
                obtain ⟨hp58, qt58, qz58⟩ := hpa.set (j := 9) (c := 2) (r := (m + 19)) (row := w) (v := x14) (by decide) (by omega) (by decide) rfl
                rw [show rw_set Hsa (m + 19) (ps_W 9) (gi_sz Hsa (m + 19)) w 2 x14 = H58 from q58.symm] at hp58 qt58 qz58
                have ht58 := hta.trans qt58
                refine mw_go mu_g173 (k := 2) (f1 := (273, [(8, .inl (1 : Int32)), (7, .inl x14), (6, .inl x13), (3, .inl x), (0, .inr (.inr (some 92))), (1, .inl v), (2, .inl w), (4, .inl (rw_get H (m + 19) 4 (gi_sz H (m + 19)) w 0)), (5, .inl ((rw_get H (m + 19) 4 (gi_sz H (m + 19)) w 1) - (1 : Int32)))], [.inr (.inr (mu_r H58 92 2))], H58)) (C := [mu_is H58 (some 92) 12]) rfl (show mu_is H58 (some 92) 12 from hp58.1.is rfl) ?_
                rw [hp58.2.2]
                refine mw_go mu_g173 (k := 1) (f1 := (276, [(8, .inl (1 : Int32)), (7, .inl x14), (6, .inl x13), (3, .inl x), (0, .inr (.inr (some 92))), (1, .inl v), (2, .inl w), (4, .inl (rw_get H (m + 19) 4 (gi_sz H (m + 19)) w 0)), (5, .inl ((rw_get H (m + 19) 4 (gi_sz H (m + 19)) w 1) - (1 : Int32)))], [.inr (.inr (mu_r H58 m 9))], H58)) (C := [mu_is H58 (some m) 6]) rfl (show mu_is H58 (some m) 6 from (show mu_is H58 (some m) 6 from gi_im hp58.1 hp58.2.1)) ?_
                rw [(show mu_r H58 m 9 = some (m + 19) from (gi_mr hp58.1 hp58.2.1 (j := 9) (by decide)).trans (congrArg some (by omega)))]
                refine mw_go mu_g173 (k := 4) (f1 := (281, [(8, .inl (1 : Int32)), (7, .inl x14), (6, .inl x13), (3, .inl x), (0, .inr (.inr (some 92))), (1, .inl v), (2, .inl w), (4, .inl (rw_get H (m + 19) 4 (gi_sz H (m + 19)) w 0)), (5, .inl ((rw_get H (m + 19) 4 (gi_sz H (m + 19)) w 1) - (1 : Int32)))], [.inl x13, .inr (.inr (some 92)), .inl (3 : Int32), .inl w, .inr (.inr (some (m + 19)))], H58)) (C := []) rfl trivial ?_
                refine mw_cI (fun _ => rfl) (show mu_is H58 (some 92) 12 from hp58.1.is rfl) (so_rowOf (d := d) hp58.1 x13) (fun x59 H59 q59 => ?_)
                obtain rfl := q59
                refine mw_go mu_g173 (k := 2) (f1 := (288, [(8, .inl (1 : Int32)), (7, .inl x14), (6, .inl x13), (3, .inl x), (0, .inr (.inr (some 92))), (1, .inl v), (2, .inl w), (4, .inl (rw_get H (m + 19) 4 (gi_sz H (m + 19)) w 0)), (5, .inl ((rw_get H (m + 19) 4 (gi_sz H (m + 19)) w 1) - (1 : Int32)))], [.inr (.inr (mu_r H58 92 2)), .inl x59, .inl (3 : Int32), .inl w, .inr (.inr (some (m + 19)))], H58)) (C := [mu_is H58 (some 92) 12]) rfl (show mu_is H58 (some 92) 12 from hp58.1.is rfl) ?_
                rw [hp58.2.2]
                refine mw_go mu_g173 (k := 1) (f1 := (291, [(8, .inl (1 : Int32)), (7, .inl x14), (6, .inl x13), (3, .inl x), (0, .inr (.inr (some 92))), (1, .inl v), (2, .inl w), (4, .inl (rw_get H (m + 19) 4 (gi_sz H (m + 19)) w 0)), (5, .inl ((rw_get H (m + 19) 4 (gi_sz H (m + 19)) w 1) - (1 : Int32)))], [.inr (.inr (mu_r H58 m 1)), .inl x59, .inl (3 : Int32), .inl w, .inr (.inr (some (m + 19)))], H58)) (C := [mu_is H58 (some m) 6]) rfl (show mu_is H58 (some m) 6 from (show mu_is H58 (some m) 6 from gi_im hp58.1 hp58.2.1)) ?_
                rw [(show mu_r H58 m 1 = some (m + 3) from (gi_mr hp58.1 hp58.2.1 (j := 1) (by decide)).trans (congrArg some (by omega)))]
                refine mw_go mu_g173 (k := 2) (f1 := (294, [(8, .inl (1 : Int32)), (7, .inl x14), (6, .inl x13), (3, .inl x), (0, .inr (.inr (some 92))), (1, .inl v), (2, .inl w), (4, .inl (rw_get H (m + 19) 4 (gi_sz H (m + 19)) w 0)), (5, .inl ((rw_get H (m + 19) 4 (gi_sz H (m + 19)) w 1) - (1 : Int32)))], [.inl (1 : Int32), .inl x, .inr (.inr (some (m + 3))), .inl x59, .inl (3 : Int32), .inl w, .inr (.inr (some (m + 19)))], H58)) (C := []) rfl trivial ?_
                refine mw_cIe (fun _ => rfl) (show mu_is H58 (some (m + 3)) 10 from (hp58.1.w (md_w1 hp58.2.1)).1) (gi_get_ok (d := (d + 1)) (H := H58) hp58.1 (md_w1 hp58.2.1) x (j := 1) (by decide)) ?_
                refine mw_go mu_g173 (k := 1) (f1 := (298, [(8, .inl (1 : Int32)), (7, .inl x14), (6, .inl x13), (3, .inl x), (0, .inr (.inr (some 92))), (1, .inl v), (2, .inl w), (4, .inl (rw_get H (m + 19) 4 (gi_sz H (m + 19)) w 0)), (5, .inl ((rw_get H (m + 19) 4 (gi_sz H (m + 19)) w 1) - (1 : Int32)))], [.inl (x59 - (rw_get H58 (m + 3) 11 (gi_sz H58 (m + 3)) x 1)), .inl (3 : Int32), .inl w, .inr (.inr (some (m + 19)))], H58)) (C := []) rfl trivial ?_
                refine mw_cV (fun _ => rfl) (show mu_is H58 (some (m + 19)) 10 from (hp58.1.w (md_w9 hp58.2.1)).1) (gi_set_ok (d := (d + 1)) hp58.1 (md_w9 hp58.2.1) w (x59 - (rw_get H58 (m + 3) 11 (gi_sz H58 (m + 3)) x 1)) (j := 3) (by decide)) (fun H61 q61 => ?_)
                obtain ⟨hp61, qt61, qz61⟩ := hp58.set (j := 9) (c := 3) (r := (m + 19)) (row := w) (v := (x59 - (rw_get H58 (m + 3) 11 (gi_sz H58 (m + 3)) x 1))) (by decide) (by omega) (by decide) rfl
                rw [show rw_set H58 (m + 19) (ps_W 9) (gi_sz H58 (m + 19)) w 3 (x59 - (rw_get H58 (m + 3) 11 (gi_sz H58 (m + 3)) x 1)) = H61 from q61.symm] at hp61 qt61 qz61
                have ht61 := ht58.trans qt61
                refine mw_go mu_g173 (k := 1) (f1 := (302, [(8, .inl (1 : Int32)), (7, .inl x14), (6, .inl x13), (3, .inl x), (0, .inr (.inr (some 92))), (1, .inl v), (2, .inl w), (4, .inl (rw_get H (m + 19) 4 (gi_sz H (m + 19)) w 0)), (5, .inl ((rw_get H (m + 19) 4 (gi_sz H (m + 19)) w 1) - (1 : Int32)))], [.inl (1 : Int32)], H61)) (C := []) rfl trivial ?_
                exact mw_of (fun _ => mu_ret rfl (Or.inr rfl) ⟨_, H61, rfl, Or.inr rfl, hp61, ht61, by omega⟩)
            · -- 230: not x14 = (1 : Int32)
              refine mw_go mu_g173 (k := 1) (f1 := (231, [(7, .inl x14), (6, .inl x13), (3, .inl x), (0, .inr (.inr (some 92))), (1, .inl v), (2, .inl w), (4, .inl (rw_get H (m + 19) 4 (gi_sz H (m + 19)) w 0)), (5, .inl ((rw_get H (m + 19) 4 (gi_sz H (m + 19)) w 1) - (1 : Int32)))], [.inl (0 : Int32)], Hsa)) (C := []) rfl trivial ?_
              exact mw_of (fun _ => mu_ret rfl (Or.inl rfl) ⟨_, Hsa, rfl, Or.inl rfl, hpa, hta, by omega⟩)
    · -- 207: not x14 = 0
      refine mw_go mu_g173 (k := 2) (f1 := (210, [(7, .inl x14), (6, .inl x13), (3, .inl x), (0, .inr (.inr (some 92))), (1, .inl v), (2, .inl w), (4, .inl (rw_get H (m + 19) 4 (gi_sz H (m + 19)) w 0)), (5, .inl ((rw_get H (m + 19) 4 (gi_sz H (m + 19)) w 1) - (1 : Int32)))], [.inl (3 : Int32), .inl x14], Hsa)) (C := []) rfl trivial ?_
      refine mw_if (P := x14 = (3 : Int32)) (a := 232) (b := 213) (fun _ => rfl) trivial (fun h62 => ?_) (fun h62 => ?_)
      · -- 232: x14 = (3 : Int32)
        refine mw_go mu_g173 (k := 2) (f1 := (235, [(7, .inl x14), (6, .inl x13), (3, .inl x), (0, .inr (.inr (some 92))), (1, .inl v), (2, .inl w), (4, .inl (rw_get H (m + 19) 4 (gi_sz H (m + 19)) w 0)), (5, .inl ((rw_get H (m + 19) 4 (gi_sz H (m + 19)) w 1) - (1 : Int32)))], [.inl (3 : Int32), .inl x14], Hsa)) (C := []) rfl trivial ?_
        refine mw_if (P := x14 = (3 : Int32)) (a := 238) (b := 242) (fun _ => rfl) trivial (fun _ => ?_) (fun h63 => absurd h62 h63)
        refine mw_go mu_g173 (k := 5) (f1 := (259, [(8, .inl (2 : Int32)), (7, .inl x14), (6, .inl x13), (3, .inl x), (0, .inr (.inr (some 92))), (1, .inl v), (2, .inl w), (4, .inl (rw_get H (m + 19) 4 (gi_sz H (m + 19)) w 0)), (5, .inl ((rw_get H (m + 19) 4 (gi_sz H (m + 19)) w 1) - (1 : Int32)))], [.inr (.inr (mu_r Hsa 92 2))], Hsa)) (C := [mu_is Hsa (some 92) 12]) rfl (show mu_is Hsa (some 92) 12 from hpa.1.is rfl) ?_
        rw [hpa.2.2]
        refine mw_go mu_g173 (k := 1) (f1 := (262, [(8, .inl (2 : Int32)), (7, .inl x14), (6, .inl x13), (3, .inl x), (0, .inr (.inr (some 92))), (1, .inl v), (2, .inl w), (4, .inl (rw_get H (m + 19) 4 (gi_sz H (m + 19)) w 0)), (5, .inl ((rw_get H (m + 19) 4 (gi_sz H (m + 19)) w 1) - (1 : Int32)))], [.inr (.inr (mu_r Hsa m 9))], Hsa)) (C := [mu_is Hsa (some m) 6]) rfl (show mu_is Hsa (some m) 6 from (show mu_is Hsa (some m) 6 from gi_im hpa.1 hpa.2.1)) ?_
        rw [(show mu_r Hsa m 9 = some (m + 19) from (gi_mr hpa.1 hpa.2.1 (j := 9) (by decide)).trans (congrArg some (by omega)))]
        refine mw_go mu_g173 (k := 3) (f1 := (266, [(8, .inl (2 : Int32)), (7, .inl x14), (6, .inl x13), (3, .inl x), (0, .inr (.inr (some 92))), (1, .inl v), (2, .inl w), (4, .inl (rw_get H (m + 19) 4 (gi_sz H (m + 19)) w 0)), (5, .inl ((rw_get H (m + 19) 4 (gi_sz H (m + 19)) w 1) - (1 : Int32)))], [.inl x14, .inl (2 : Int32), .inl w, .inr (.inr (some (m + 19)))], Hsa)) (C := []) rfl trivial ?_
        refine mw_cV (fun _ => rfl) (show mu_is Hsa (some (m + 19)) 10 from (hpa.1.w (md_w9 hpa.2.1)).1) (gi_set_ok (d := (d + 1)) hpa.1 (md_w9 hpa.2.1) w x14 (j := 2) (by decide)) (fun H64 q64 => ?_)
        obtain ⟨hp64, qt64, qz64⟩ := hpa.set (j := 9) (c := 2) (r := (m + 19)) (row := w) (v := x14) (by decide) (by omega) (by decide) rfl
        rw [show rw_set Hsa (m + 19) (ps_W 9) (gi_sz Hsa (m + 19)) w 2 x14 = H64 from q64.symm] at hp64 qt64 qz64
        have ht64 := hta.trans qt64
        refine mw_go mu_g173 (k := 2) (f1 := (273, [(8, .inl (2 : Int32)), (7, .inl x14), (6, .inl x13), (3, .inl x), (0, .inr (.inr (some 92))), (1, .inl v), (2, .inl w), (4, .inl (rw_get H (m + 19) 4 (gi_sz H (m + 19)) w 0)), (5, .inl ((rw_get H (m + 19) 4 (gi_sz H (m + 19)) w 1) - (1 : Int32)))], [.inr (.inr (mu_r H64 92 2))], H64)) (C := [mu_is H64 (some 92) 12]) rfl (show mu_is H64 (some 92) 12 from hp64.1.is rfl) ?_
        rw [hp64.2.2]
        refine mw_go mu_g173 (k := 1) (f1 := (276, [(8, .inl (2 : Int32)), (7, .inl x14), (6, .inl x13), (3, .inl x), (0, .inr (.inr (some 92))), (1, .inl v), (2, .inl w), (4, .inl (rw_get H (m + 19) 4 (gi_sz H (m + 19)) w 0)), (5, .inl ((rw_get H (m + 19) 4 (gi_sz H (m + 19)) w 1) - (1 : Int32)))], [.inr (.inr (mu_r H64 m 9))], H64)) (C := [mu_is H64 (some m) 6]) rfl (show mu_is H64 (some m) 6 from (show mu_is H64 (some m) 6 from gi_im hp64.1 hp64.2.1)) ?_
        rw [(show mu_r H64 m 9 = some (m + 19) from (gi_mr hp64.1 hp64.2.1 (j := 9) (by decide)).trans (congrArg some (by omega)))]
        refine mw_go mu_g173 (k := 4) (f1 := (281, [(8, .inl (2 : Int32)), (7, .inl x14), (6, .inl x13), (3, .inl x), (0, .inr (.inr (some 92))), (1, .inl v), (2, .inl w), (4, .inl (rw_get H (m + 19) 4 (gi_sz H (m + 19)) w 0)), (5, .inl ((rw_get H (m + 19) 4 (gi_sz H (m + 19)) w 1) - (1 : Int32)))], [.inl x13, .inr (.inr (some 92)), .inl (3 : Int32), .inl w, .inr (.inr (some (m + 19)))], H64)) (C := []) rfl trivial ?_
        refine mw_cI (fun _ => rfl) (show mu_is H64 (some 92) 12 from hp64.1.is rfl) (so_rowOf (d := d) hp64.1 x13) (fun x65 H65 q65 => ?_)
        obtain rfl := q65
        refine mw_go mu_g173 (k := 2) (f1 := (288, [(8, .inl (2 : Int32)), (7, .inl x14), (6, .inl x13), (3, .inl x), (0, .inr (.inr (some 92))), (1, .inl v), (2, .inl w), (4, .inl (rw_get H (m + 19) 4 (gi_sz H (m + 19)) w 0)), (5, .inl ((rw_get H (m + 19) 4 (gi_sz H (m + 19)) w 1) - (1 : Int32)))], [.inr (.inr (mu_r H64 92 2)), .inl x65, .inl (3 : Int32), .inl w, .inr (.inr (some (m + 19)))], H64)) (C := [mu_is H64 (some 92) 12]) rfl (show mu_is H64 (some 92) 12 from hp64.1.is rfl) ?_
        rw [hp64.2.2]
        refine mw_go mu_g173 (k := 1) (f1 := (291, [(8, .inl (2 : Int32)), (7, .inl x14), (6, .inl x13), (3, .inl x), (0, .inr (.inr (some 92))), (1, .inl v), (2, .inl w), (4, .inl (rw_get H (m + 19) 4 (gi_sz H (m + 19)) w 0)), (5, .inl ((rw_get H (m + 19) 4 (gi_sz H (m + 19)) w 1) - (1 : Int32)))], [.inr (.inr (mu_r H64 m 1)), .inl x65, .inl (3 : Int32), .inl w, .inr (.inr (some (m + 19)))], H64)) (C := [mu_is H64 (some m) 6]) rfl (show mu_is H64 (some m) 6 from (show mu_is H64 (some m) 6 from gi_im hp64.1 hp64.2.1)) ?_
        rw [(show mu_r H64 m 1 = some (m + 3) from (gi_mr hp64.1 hp64.2.1 (j := 1) (by decide)).trans (congrArg some (by omega)))]
        refine mw_go mu_g173 (k := 2) (f1 := (294, [(8, .inl (2 : Int32)), (7, .inl x14), (6, .inl x13), (3, .inl x), (0, .inr (.inr (some 92))), (1, .inl v), (2, .inl w), (4, .inl (rw_get H (m + 19) 4 (gi_sz H (m + 19)) w 0)), (5, .inl ((rw_get H (m + 19) 4 (gi_sz H (m + 19)) w 1) - (1 : Int32)))], [.inl (2 : Int32), .inl x, .inr (.inr (some (m + 3))), .inl x65, .inl (3 : Int32), .inl w, .inr (.inr (some (m + 19)))], H64)) (C := []) rfl trivial ?_
        refine mw_cIe (fun _ => rfl) (show mu_is H64 (some (m + 3)) 10 from (hp64.1.w (md_w1 hp64.2.1)).1) (gi_get_ok (d := (d + 1)) (H := H64) hp64.1 (md_w1 hp64.2.1) x (j := 2) (by decide)) ?_
        refine mw_go mu_g173 (k := 1) (f1 := (298, [(8, .inl (2 : Int32)), (7, .inl x14), (6, .inl x13), (3, .inl x), (0, .inr (.inr (some 92))), (1, .inl v), (2, .inl w), (4, .inl (rw_get H (m + 19) 4 (gi_sz H (m + 19)) w 0)), (5, .inl ((rw_get H (m + 19) 4 (gi_sz H (m + 19)) w 1) - (1 : Int32)))], [.inl (x65 - (rw_get H64 (m + 3) 11 (gi_sz H64 (m + 3)) x 2)), .inl (3 : Int32), .inl w, .inr (.inr (some (m + 19)))], H64)) (C := []) rfl trivial ?_
        refine mw_cV (fun _ => rfl) (show mu_is H64 (some (m + 19)) 10 from (hp64.1.w (md_w9 hp64.2.1)).1) (gi_set_ok (d := (d + 1)) hp64.1 (md_w9 hp64.2.1) w (x65 - (rw_get H64 (m + 3) 11 (gi_sz H64 (m + 3)) x 2)) (j := 3) (by decide)) (fun H67 q67 => ?_)
        obtain ⟨hp67, qt67, qz67⟩ := hp64.set (j := 9) (c := 3) (r := (m + 19)) (row := w) (v := (x65 - (rw_get H64 (m + 3) 11 (gi_sz H64 (m + 3)) x 2))) (by decide) (by omega) (by decide) rfl
        rw [show rw_set H64 (m + 19) (ps_W 9) (gi_sz H64 (m + 19)) w 3 (x65 - (rw_get H64 (m + 3) 11 (gi_sz H64 (m + 3)) x 2)) = H67 from q67.symm] at hp67 qt67 qz67
        have ht67 := ht64.trans qt67
        refine mw_go mu_g173 (k := 1) (f1 := (302, [(8, .inl (2 : Int32)), (7, .inl x14), (6, .inl x13), (3, .inl x), (0, .inr (.inr (some 92))), (1, .inl v), (2, .inl w), (4, .inl (rw_get H (m + 19) 4 (gi_sz H (m + 19)) w 0)), (5, .inl ((rw_get H (m + 19) 4 (gi_sz H (m + 19)) w 1) - (1 : Int32)))], [.inl (1 : Int32)], H67)) (C := []) rfl trivial ?_
        exact mw_of (fun _ => mu_ret rfl (Or.inr rfl) ⟨_, H67, rfl, Or.inr rfl, hp67, ht67, by omega⟩)
      · -- 213: not x14 = (3 : Int32)
        refine mw_go mu_g173 (k := 2) (f1 := (216, [(7, .inl x14), (6, .inl x13), (3, .inl x), (0, .inr (.inr (some 92))), (1, .inl v), (2, .inl w), (4, .inl (rw_get H (m + 19) 4 (gi_sz H (m + 19)) w 0)), (5, .inl ((rw_get H (m + 19) 4 (gi_sz H (m + 19)) w 1) - (1 : Int32)))], [.inl (2 : Int32), .inl x14], Hsa)) (C := []) rfl trivial ?_
        refine mw_if (P := x14 = (2 : Int32)) (a := 232) (b := 219) (fun _ => rfl) trivial (fun h68 => ?_) (fun h68 => ?_)
        · -- 232: x14 = (2 : Int32)
          refine mw_go mu_g173 (k := 2) (f1 := (235, [(7, .inl x14), (6, .inl x13), (3, .inl x), (0, .inr (.inr (some 92))), (1, .inl v), (2, .inl w), (4, .inl (rw_get H (m + 19) 4 (gi_sz H (m + 19)) w 0)), (5, .inl ((rw_get H (m + 19) 4 (gi_sz H (m + 19)) w 1) - (1 : Int32)))], [.inl (3 : Int32), .inl x14], Hsa)) (C := []) rfl trivial ?_
          refine mw_if (P := x14 = (3 : Int32)) (a := 238) (b := 242) (fun _ => rfl) trivial (fun h69 => absurd h69 h62) (fun _ => ?_)
          refine mw_go mu_g173 (k := 2) (f1 := (245, [(7, .inl x14), (6, .inl x13), (3, .inl x), (0, .inr (.inr (some 92))), (1, .inl v), (2, .inl w), (4, .inl (rw_get H (m + 19) 4 (gi_sz H (m + 19)) w 0)), (5, .inl ((rw_get H (m + 19) 4 (gi_sz H (m + 19)) w 1) - (1 : Int32)))], [.inl (2 : Int32), .inl x14], Hsa)) (C := []) rfl trivial ?_
          refine mw_if (P := x14 = (2 : Int32)) (a := 248) (b := 252) (fun _ => rfl) trivial (fun _ => ?_) (fun h70 => absurd h68 h70)
          refine mw_go mu_g173 (k := 5) (f1 := (259, [(8, .inl (3 : Int32)), (7, .inl x14), (6, .inl x13), (3, .inl x), (0, .inr (.inr (some 92))), (1, .inl v), (2, .inl w), (4, .inl (rw_get H (m + 19) 4 (gi_sz H (m + 19)) w 0)), (5, .inl ((rw_get H (m + 19) 4 (gi_sz H (m + 19)) w 1) - (1 : Int32)))], [.inr (.inr (mu_r Hsa 92 2))], Hsa)) (C := [mu_is Hsa (some 92) 12]) rfl (show mu_is Hsa (some 92) 12 from hpa.1.is rfl) ?_
          rw [hpa.2.2]
          refine mw_go mu_g173 (k := 1) (f1 := (262, [(8, .inl (3 : Int32)), (7, .inl x14), (6, .inl x13), (3, .inl x), (0, .inr (.inr (some 92))), (1, .inl v), (2, .inl w), (4, .inl (rw_get H (m + 19) 4 (gi_sz H (m + 19)) w 0)), (5, .inl ((rw_get H (m + 19) 4 (gi_sz H (m + 19)) w 1) - (1 : Int32)))], [.inr (.inr (mu_r Hsa m 9))], Hsa)) (C := [mu_is Hsa (some m) 6]) rfl (show mu_is Hsa (some m) 6 from (show mu_is Hsa (some m) 6 from gi_im hpa.1 hpa.2.1)) ?_
          rw [(show mu_r Hsa m 9 = some (m + 19) from (gi_mr hpa.1 hpa.2.1 (j := 9) (by decide)).trans (congrArg some (by omega)))]
          refine mw_go mu_g173 (k := 3) (f1 := (266, [(8, .inl (3 : Int32)), (7, .inl x14), (6, .inl x13), (3, .inl x), (0, .inr (.inr (some 92))), (1, .inl v), (2, .inl w), (4, .inl (rw_get H (m + 19) 4 (gi_sz H (m + 19)) w 0)), (5, .inl ((rw_get H (m + 19) 4 (gi_sz H (m + 19)) w 1) - (1 : Int32)))], [.inl x14, .inl (2 : Int32), .inl w, .inr (.inr (some (m + 19)))], Hsa)) (C := []) rfl trivial ?_
          refine mw_cV (fun _ => rfl) (show mu_is Hsa (some (m + 19)) 10 from (hpa.1.w (md_w9 hpa.2.1)).1) (gi_set_ok (d := (d + 1)) hpa.1 (md_w9 hpa.2.1) w x14 (j := 2) (by decide)) (fun H71 q71 => ?_)
          obtain ⟨hp71, qt71, qz71⟩ := hpa.set (j := 9) (c := 2) (r := (m + 19)) (row := w) (v := x14) (by decide) (by omega) (by decide) rfl
          rw [show rw_set Hsa (m + 19) (ps_W 9) (gi_sz Hsa (m + 19)) w 2 x14 = H71 from q71.symm] at hp71 qt71 qz71
          have ht71 := hta.trans qt71
          refine mw_go mu_g173 (k := 2) (f1 := (273, [(8, .inl (3 : Int32)), (7, .inl x14), (6, .inl x13), (3, .inl x), (0, .inr (.inr (some 92))), (1, .inl v), (2, .inl w), (4, .inl (rw_get H (m + 19) 4 (gi_sz H (m + 19)) w 0)), (5, .inl ((rw_get H (m + 19) 4 (gi_sz H (m + 19)) w 1) - (1 : Int32)))], [.inr (.inr (mu_r H71 92 2))], H71)) (C := [mu_is H71 (some 92) 12]) rfl (show mu_is H71 (some 92) 12 from hp71.1.is rfl) ?_
          rw [hp71.2.2]
          refine mw_go mu_g173 (k := 1) (f1 := (276, [(8, .inl (3 : Int32)), (7, .inl x14), (6, .inl x13), (3, .inl x), (0, .inr (.inr (some 92))), (1, .inl v), (2, .inl w), (4, .inl (rw_get H (m + 19) 4 (gi_sz H (m + 19)) w 0)), (5, .inl ((rw_get H (m + 19) 4 (gi_sz H (m + 19)) w 1) - (1 : Int32)))], [.inr (.inr (mu_r H71 m 9))], H71)) (C := [mu_is H71 (some m) 6]) rfl (show mu_is H71 (some m) 6 from (show mu_is H71 (some m) 6 from gi_im hp71.1 hp71.2.1)) ?_
          rw [(show mu_r H71 m 9 = some (m + 19) from (gi_mr hp71.1 hp71.2.1 (j := 9) (by decide)).trans (congrArg some (by omega)))]
          refine mw_go mu_g173 (k := 4) (f1 := (281, [(8, .inl (3 : Int32)), (7, .inl x14), (6, .inl x13), (3, .inl x), (0, .inr (.inr (some 92))), (1, .inl v), (2, .inl w), (4, .inl (rw_get H (m + 19) 4 (gi_sz H (m + 19)) w 0)), (5, .inl ((rw_get H (m + 19) 4 (gi_sz H (m + 19)) w 1) - (1 : Int32)))], [.inl x13, .inr (.inr (some 92)), .inl (3 : Int32), .inl w, .inr (.inr (some (m + 19)))], H71)) (C := []) rfl trivial ?_
          refine mw_cI (fun _ => rfl) (show mu_is H71 (some 92) 12 from hp71.1.is rfl) (so_rowOf (d := d) hp71.1 x13) (fun x72 H72 q72 => ?_)
          obtain rfl := q72
          refine mw_go mu_g173 (k := 2) (f1 := (288, [(8, .inl (3 : Int32)), (7, .inl x14), (6, .inl x13), (3, .inl x), (0, .inr (.inr (some 92))), (1, .inl v), (2, .inl w), (4, .inl (rw_get H (m + 19) 4 (gi_sz H (m + 19)) w 0)), (5, .inl ((rw_get H (m + 19) 4 (gi_sz H (m + 19)) w 1) - (1 : Int32)))], [.inr (.inr (mu_r H71 92 2)), .inl x72, .inl (3 : Int32), .inl w, .inr (.inr (some (m + 19)))], H71)) (C := [mu_is H71 (some 92) 12]) rfl (show mu_is H71 (some 92) 12 from hp71.1.is rfl) ?_
          rw [hp71.2.2]
          refine mw_go mu_g173 (k := 1) (f1 := (291, [(8, .inl (3 : Int32)), (7, .inl x14), (6, .inl x13), (3, .inl x), (0, .inr (.inr (some 92))), (1, .inl v), (2, .inl w), (4, .inl (rw_get H (m + 19) 4 (gi_sz H (m + 19)) w 0)), (5, .inl ((rw_get H (m + 19) 4 (gi_sz H (m + 19)) w 1) - (1 : Int32)))], [.inr (.inr (mu_r H71 m 1)), .inl x72, .inl (3 : Int32), .inl w, .inr (.inr (some (m + 19)))], H71)) (C := [mu_is H71 (some m) 6]) rfl (show mu_is H71 (some m) 6 from (show mu_is H71 (some m) 6 from gi_im hp71.1 hp71.2.1)) ?_
          rw [(show mu_r H71 m 1 = some (m + 3) from (gi_mr hp71.1 hp71.2.1 (j := 1) (by decide)).trans (congrArg some (by omega)))]
          refine mw_go mu_g173 (k := 2) (f1 := (294, [(8, .inl (3 : Int32)), (7, .inl x14), (6, .inl x13), (3, .inl x), (0, .inr (.inr (some 92))), (1, .inl v), (2, .inl w), (4, .inl (rw_get H (m + 19) 4 (gi_sz H (m + 19)) w 0)), (5, .inl ((rw_get H (m + 19) 4 (gi_sz H (m + 19)) w 1) - (1 : Int32)))], [.inl (3 : Int32), .inl x, .inr (.inr (some (m + 3))), .inl x72, .inl (3 : Int32), .inl w, .inr (.inr (some (m + 19)))], H71)) (C := []) rfl trivial ?_
          refine mw_cIe (fun _ => rfl) (show mu_is H71 (some (m + 3)) 10 from (hp71.1.w (md_w1 hp71.2.1)).1) (gi_get_ok (d := (d + 1)) (H := H71) hp71.1 (md_w1 hp71.2.1) x (j := 3) (by decide)) ?_
          refine mw_go mu_g173 (k := 1) (f1 := (298, [(8, .inl (3 : Int32)), (7, .inl x14), (6, .inl x13), (3, .inl x), (0, .inr (.inr (some 92))), (1, .inl v), (2, .inl w), (4, .inl (rw_get H (m + 19) 4 (gi_sz H (m + 19)) w 0)), (5, .inl ((rw_get H (m + 19) 4 (gi_sz H (m + 19)) w 1) - (1 : Int32)))], [.inl (x72 - (rw_get H71 (m + 3) 11 (gi_sz H71 (m + 3)) x 3)), .inl (3 : Int32), .inl w, .inr (.inr (some (m + 19)))], H71)) (C := []) rfl trivial ?_
          refine mw_cV (fun _ => rfl) (show mu_is H71 (some (m + 19)) 10 from (hp71.1.w (md_w9 hp71.2.1)).1) (gi_set_ok (d := (d + 1)) hp71.1 (md_w9 hp71.2.1) w (x72 - (rw_get H71 (m + 3) 11 (gi_sz H71 (m + 3)) x 3)) (j := 3) (by decide)) (fun H74 q74 => ?_)
          obtain ⟨hp74, qt74, qz74⟩ := hp71.set (j := 9) (c := 3) (r := (m + 19)) (row := w) (v := (x72 - (rw_get H71 (m + 3) 11 (gi_sz H71 (m + 3)) x 3))) (by decide) (by omega) (by decide) rfl
          rw [show rw_set H71 (m + 19) (ps_W 9) (gi_sz H71 (m + 19)) w 3 (x72 - (rw_get H71 (m + 3) 11 (gi_sz H71 (m + 3)) x 3)) = H74 from q74.symm] at hp74 qt74 qz74
          have ht74 := ht71.trans qt74
          refine mw_go mu_g173 (k := 1) (f1 := (302, [(8, .inl (3 : Int32)), (7, .inl x14), (6, .inl x13), (3, .inl x), (0, .inr (.inr (some 92))), (1, .inl v), (2, .inl w), (4, .inl (rw_get H (m + 19) 4 (gi_sz H (m + 19)) w 0)), (5, .inl ((rw_get H (m + 19) 4 (gi_sz H (m + 19)) w 1) - (1 : Int32)))], [.inl (1 : Int32)], H74)) (C := []) rfl trivial ?_
          exact mw_of (fun _ => mu_ret rfl (Or.inr rfl) ⟨_, H74, rfl, Or.inr rfl, hp74, ht74, by omega⟩)
        · -- 219: not x14 = (2 : Int32)
          refine mw_go mu_g173 (k := 2) (f1 := (222, [(7, .inl x14), (6, .inl x13), (3, .inl x), (0, .inr (.inr (some 92))), (1, .inl v), (2, .inl w), (4, .inl (rw_get H (m + 19) 4 (gi_sz H (m + 19)) w 0)), (5, .inl ((rw_get H (m + 19) 4 (gi_sz H (m + 19)) w 1) - (1 : Int32)))], [.inl (1 : Int32), .inl x14], Hsa)) (C := []) rfl trivial ?_
          refine mw_if (P := x14 = (1 : Int32)) (a := 225) (b := 230) (fun _ => rfl) trivial (fun h75 => ?_) (fun h75 => ?_)
          · -- 225: x14 = (1 : Int32)
            refine mw_go mu_g173 (k := 1) (f1 := (227, [(7, .inl x14), (6, .inl x13), (3, .inl x), (0, .inr (.inr (some 92))), (1, .inl v), (2, .inl w), (4, .inl (rw_get H (m + 19) 4 (gi_sz H (m + 19)) w 0)), (5, .inl ((rw_get H (m + 19) 4 (gi_sz H (m + 19)) w 1) - (1 : Int32)))], [.inl ((rw_get H (m + 19) 4 (gi_sz H (m + 19)) w 1) - (1 : Int32))], Hsa)) (C := []) rfl trivial ?_
            refine mw_if (P := 0 < ((rw_get H (m + 19) 4 (gi_sz H (m + 19)) w 1) - (1 : Int32))) (a := 230) (b := 232) (fun _ => rfl) trivial (fun h76 => ?_) (fun h76 => ?_)
            · -- 230: 0 < ((rw_get H (m + 19) 4 (gi_sz H (m + 19)) w 1) - (1 : Int32))
              refine mw_go mu_g173 (k := 1) (f1 := (231, [(7, .inl x14), (6, .inl x13), (3, .inl x), (0, .inr (.inr (some 92))), (1, .inl v), (2, .inl w), (4, .inl (rw_get H (m + 19) 4 (gi_sz H (m + 19)) w 0)), (5, .inl ((rw_get H (m + 19) 4 (gi_sz H (m + 19)) w 1) - (1 : Int32)))], [.inl (0 : Int32)], Hsa)) (C := []) rfl trivial ?_
              exact mw_of (fun _ => mu_ret rfl (Or.inl rfl) ⟨_, Hsa, rfl, Or.inl rfl, hpa, hta, by omega⟩)
            · -- 232: not 0 < ((rw_get H (m + 19) 4 (gi_sz H (m + 19)) w 1) - (1 : Int32))
              refine mw_go mu_g173 (k := 2) (f1 := (235, [(7, .inl x14), (6, .inl x13), (3, .inl x), (0, .inr (.inr (some 92))), (1, .inl v), (2, .inl w), (4, .inl (rw_get H (m + 19) 4 (gi_sz H (m + 19)) w 0)), (5, .inl ((rw_get H (m + 19) 4 (gi_sz H (m + 19)) w 1) - (1 : Int32)))], [.inl (3 : Int32), .inl x14], Hsa)) (C := []) rfl trivial ?_
              refine mw_if (P := x14 = (3 : Int32)) (a := 238) (b := 242) (fun _ => rfl) trivial (fun h77 => absurd h77 h62) (fun _ => ?_)
              refine mw_go mu_g173 (k := 2) (f1 := (245, [(7, .inl x14), (6, .inl x13), (3, .inl x), (0, .inr (.inr (some 92))), (1, .inl v), (2, .inl w), (4, .inl (rw_get H (m + 19) 4 (gi_sz H (m + 19)) w 0)), (5, .inl ((rw_get H (m + 19) 4 (gi_sz H (m + 19)) w 1) - (1 : Int32)))], [.inl (2 : Int32), .inl x14], Hsa)) (C := []) rfl trivial ?_
              refine mw_if (P := x14 = (2 : Int32)) (a := 248) (b := 252) (fun _ => rfl) trivial (fun h78 => absurd h78 h68) (fun _ => ?_)
              refine mw_go mu_g173 (k := 4) (f1 := (259, [(8, .inl (1 : Int32)), (7, .inl x14), (6, .inl x13), (3, .inl x), (0, .inr (.inr (some 92))), (1, .inl v), (2, .inl w), (4, .inl (rw_get H (m + 19) 4 (gi_sz H (m + 19)) w 0)), (5, .inl ((rw_get H (m + 19) 4 (gi_sz H (m + 19)) w 1) - (1 : Int32)))], [.inr (.inr (mu_r Hsa 92 2))], Hsa)) (C := [mu_is Hsa (some 92) 12]) rfl (show mu_is Hsa (some 92) 12 from hpa.1.is rfl) ?_
              rw [hpa.2.2]
              refine mw_go mu_g173 (k := 1) (f1 := (262, [(8, .inl (1 : Int32)), (7, .inl x14), (6, .inl x13), (3, .inl x), (0, .inr (.inr (some 92))), (1, .inl v), (2, .inl w), (4, .inl (rw_get H (m + 19) 4 (gi_sz H (m + 19)) w 0)), (5, .inl ((rw_get H (m + 19) 4 (gi_sz H (m + 19)) w 1) - (1 : Int32)))], [.inr (.inr (mu_r Hsa m 9))], Hsa)) (C := [mu_is Hsa (some m) 6]) rfl (show mu_is Hsa (some m) 6 from (show mu_is Hsa (some m) 6 from gi_im hpa.1 hpa.2.1)) ?_
              rw [(show mu_r Hsa m 9 = some (m + 19) from (gi_mr hpa.1 hpa.2.1 (j := 9) (by decide)).trans (congrArg some (by omega)))]
              refine mw_go mu_g173 (k := 3) (f1 := (266, [(8, .inl (1 : Int32)), (7, .inl x14), (6, .inl x13), (3, .inl x), (0, .inr (.inr (some 92))), (1, .inl v), (2, .inl w), (4, .inl (rw_get H (m + 19) 4 (gi_sz H (m + 19)) w 0)), (5, .inl ((rw_get H (m + 19) 4 (gi_sz H (m + 19)) w 1) - (1 : Int32)))], [.inl x14, .inl (2 : Int32), .inl w, .inr (.inr (some (m + 19)))], Hsa)) (C := []) rfl trivial ?_
              refine mw_cV (fun _ => rfl) (show mu_is Hsa (some (m + 19)) 10 from (hpa.1.w (md_w9 hpa.2.1)).1) (gi_set_ok (d := (d + 1)) hpa.1 (md_w9 hpa.2.1) w x14 (j := 2) (by decide)) (fun H79 q79 => ?_)
              obtain ⟨hp79, qt79, qz79⟩ := hpa.set (j := 9) (c := 2) (r := (m + 19)) (row := w) (v := x14) (by decide) (by omega) (by decide) rfl
              rw [show rw_set Hsa (m + 19) (ps_W 9) (gi_sz Hsa (m + 19)) w 2 x14 = H79 from q79.symm] at hp79 qt79 qz79
              have ht79 := hta.trans qt79
              refine mw_go mu_g173 (k := 2) (f1 := (273, [(8, .inl (1 : Int32)), (7, .inl x14), (6, .inl x13), (3, .inl x), (0, .inr (.inr (some 92))), (1, .inl v), (2, .inl w), (4, .inl (rw_get H (m + 19) 4 (gi_sz H (m + 19)) w 0)), (5, .inl ((rw_get H (m + 19) 4 (gi_sz H (m + 19)) w 1) - (1 : Int32)))], [.inr (.inr (mu_r H79 92 2))], H79)) (C := [mu_is H79 (some 92) 12]) rfl (show mu_is H79 (some 92) 12 from hp79.1.is rfl) ?_
              rw [hp79.2.2]
              refine mw_go mu_g173 (k := 1) (f1 := (276, [(8, .inl (1 : Int32)), (7, .inl x14), (6, .inl x13), (3, .inl x), (0, .inr (.inr (some 92))), (1, .inl v), (2, .inl w), (4, .inl (rw_get H (m + 19) 4 (gi_sz H (m + 19)) w 0)), (5, .inl ((rw_get H (m + 19) 4 (gi_sz H (m + 19)) w 1) - (1 : Int32)))], [.inr (.inr (mu_r H79 m 9))], H79)) (C := [mu_is H79 (some m) 6]) rfl (show mu_is H79 (some m) 6 from (show mu_is H79 (some m) 6 from gi_im hp79.1 hp79.2.1)) ?_
              rw [(show mu_r H79 m 9 = some (m + 19) from (gi_mr hp79.1 hp79.2.1 (j := 9) (by decide)).trans (congrArg some (by omega)))]
              refine mw_go mu_g173 (k := 4) (f1 := (281, [(8, .inl (1 : Int32)), (7, .inl x14), (6, .inl x13), (3, .inl x), (0, .inr (.inr (some 92))), (1, .inl v), (2, .inl w), (4, .inl (rw_get H (m + 19) 4 (gi_sz H (m + 19)) w 0)), (5, .inl ((rw_get H (m + 19) 4 (gi_sz H (m + 19)) w 1) - (1 : Int32)))], [.inl x13, .inr (.inr (some 92)), .inl (3 : Int32), .inl w, .inr (.inr (some (m + 19)))], H79)) (C := []) rfl trivial ?_
              refine mw_cI (fun _ => rfl) (show mu_is H79 (some 92) 12 from hp79.1.is rfl) (so_rowOf (d := d) hp79.1 x13) (fun x80 H80 q80 => ?_)
              obtain rfl := q80
              refine mw_go mu_g173 (k := 2) (f1 := (288, [(8, .inl (1 : Int32)), (7, .inl x14), (6, .inl x13), (3, .inl x), (0, .inr (.inr (some 92))), (1, .inl v), (2, .inl w), (4, .inl (rw_get H (m + 19) 4 (gi_sz H (m + 19)) w 0)), (5, .inl ((rw_get H (m + 19) 4 (gi_sz H (m + 19)) w 1) - (1 : Int32)))], [.inr (.inr (mu_r H79 92 2)), .inl x80, .inl (3 : Int32), .inl w, .inr (.inr (some (m + 19)))], H79)) (C := [mu_is H79 (some 92) 12]) rfl (show mu_is H79 (some 92) 12 from hp79.1.is rfl) ?_
              rw [hp79.2.2]
              refine mw_go mu_g173 (k := 1) (f1 := (291, [(8, .inl (1 : Int32)), (7, .inl x14), (6, .inl x13), (3, .inl x), (0, .inr (.inr (some 92))), (1, .inl v), (2, .inl w), (4, .inl (rw_get H (m + 19) 4 (gi_sz H (m + 19)) w 0)), (5, .inl ((rw_get H (m + 19) 4 (gi_sz H (m + 19)) w 1) - (1 : Int32)))], [.inr (.inr (mu_r H79 m 1)), .inl x80, .inl (3 : Int32), .inl w, .inr (.inr (some (m + 19)))], H79)) (C := [mu_is H79 (some m) 6]) rfl (show mu_is H79 (some m) 6 from (show mu_is H79 (some m) 6 from gi_im hp79.1 hp79.2.1)) ?_
              rw [(show mu_r H79 m 1 = some (m + 3) from (gi_mr hp79.1 hp79.2.1 (j := 1) (by decide)).trans (congrArg some (by omega)))]
              refine mw_go mu_g173 (k := 2) (f1 := (294, [(8, .inl (1 : Int32)), (7, .inl x14), (6, .inl x13), (3, .inl x), (0, .inr (.inr (some 92))), (1, .inl v), (2, .inl w), (4, .inl (rw_get H (m + 19) 4 (gi_sz H (m + 19)) w 0)), (5, .inl ((rw_get H (m + 19) 4 (gi_sz H (m + 19)) w 1) - (1 : Int32)))], [.inl (1 : Int32), .inl x, .inr (.inr (some (m + 3))), .inl x80, .inl (3 : Int32), .inl w, .inr (.inr (some (m + 19)))], H79)) (C := []) rfl trivial ?_
              refine mw_cIe (fun _ => rfl) (show mu_is H79 (some (m + 3)) 10 from (hp79.1.w (md_w1 hp79.2.1)).1) (gi_get_ok (d := (d + 1)) (H := H79) hp79.1 (md_w1 hp79.2.1) x (j := 1) (by decide)) ?_
              refine mw_go mu_g173 (k := 1) (f1 := (298, [(8, .inl (1 : Int32)), (7, .inl x14), (6, .inl x13), (3, .inl x), (0, .inr (.inr (some 92))), (1, .inl v), (2, .inl w), (4, .inl (rw_get H (m + 19) 4 (gi_sz H (m + 19)) w 0)), (5, .inl ((rw_get H (m + 19) 4 (gi_sz H (m + 19)) w 1) - (1 : Int32)))], [.inl (x80 - (rw_get H79 (m + 3) 11 (gi_sz H79 (m + 3)) x 1)), .inl (3 : Int32), .inl w, .inr (.inr (some (m + 19)))], H79)) (C := []) rfl trivial ?_
              refine mw_cV (fun _ => rfl) (show mu_is H79 (some (m + 19)) 10 from (hp79.1.w (md_w9 hp79.2.1)).1) (gi_set_ok (d := (d + 1)) hp79.1 (md_w9 hp79.2.1) w (x80 - (rw_get H79 (m + 3) 11 (gi_sz H79 (m + 3)) x 1)) (j := 3) (by decide)) (fun H82 q82 => ?_)
              obtain ⟨hp82, qt82, qz82⟩ := hp79.set (j := 9) (c := 3) (r := (m + 19)) (row := w) (v := (x80 - (rw_get H79 (m + 3) 11 (gi_sz H79 (m + 3)) x 1))) (by decide) (by omega) (by decide) rfl
              rw [show rw_set H79 (m + 19) (ps_W 9) (gi_sz H79 (m + 19)) w 3 (x80 - (rw_get H79 (m + 3) 11 (gi_sz H79 (m + 3)) x 1)) = H82 from q82.symm] at hp82 qt82 qz82
              have ht82 := ht79.trans qt82
              refine mw_go mu_g173 (k := 1) (f1 := (302, [(8, .inl (1 : Int32)), (7, .inl x14), (6, .inl x13), (3, .inl x), (0, .inr (.inr (some 92))), (1, .inl v), (2, .inl w), (4, .inl (rw_get H (m + 19) 4 (gi_sz H (m + 19)) w 0)), (5, .inl ((rw_get H (m + 19) 4 (gi_sz H (m + 19)) w 1) - (1 : Int32)))], [.inl (1 : Int32)], H82)) (C := []) rfl trivial ?_
              exact mw_of (fun _ => mu_ret rfl (Or.inr rfl) ⟨_, H82, rfl, Or.inr rfl, hp82, ht82, by omega⟩)
          · -- 230: not x14 = (1 : Int32)
            refine mw_go mu_g173 (k := 1) (f1 := (231, [(7, .inl x14), (6, .inl x13), (3, .inl x), (0, .inr (.inr (some 92))), (1, .inl v), (2, .inl w), (4, .inl (rw_get H (m + 19) 4 (gi_sz H (m + 19)) w 0)), (5, .inl ((rw_get H (m + 19) 4 (gi_sz H (m + 19)) w 1) - (1 : Int32)))], [.inl (0 : Int32)], Hsa)) (C := []) rfl trivial ?_
            exact mw_of (fun _ => mu_ret rfl (Or.inl rfl) ⟨_, Hsa, rfl, Or.inl rfl, hpa, hta, by omega⟩)
/-- PathProver$Sound.areNamesKnown()Z -/
abbrev mu_m172 : ev_M := (3, (some .boolean), [], ev_b172)
theorem mu_g172 : mu_good mu_m172 := mu_goodk ev_k172
theorem so_known (h : sd m H) : mu_TI (mu_D (d + 4)) 172 [.inr (.inr (some 92))] H (fun x H1 => (x = 0 ∨ x = 1) ∧ sd m H1 ∧ sq m H H1 ∧ gi_sz H1 93 = gi_sz H 93) := by
  have hm := h.2.1
  refine mu_meth (M := mu_m172) rfl rfl ?_
  refine mw_ht (mu_fn_of (show [0].Nodup by decide)) ?_
  refine mw_go mu_g172 (k := 2) (f1 := (2, [(1, .inl (0 : Int32)), (0, .inr (.inr (some 92)))], [], H)) (C := []) rfl trivial ?_
  refine mw_sub (L' := [(1, .inl (0 : Int32)), (0, .inr (.inr (some 92)))]) (by simp) ?_
  refine mw_down (α := Int32 × mu_H) (fun zs => (2, [(1, .inl zs.1), (0, .inr (.inr (some 92)))], [], zs.2)) (fun zs => (2147483647 - zs.1.toInt).toNat) (fun zs => sd m zs.2 ∧ sq m H zs.2 ∧ gi_sz zs.2 93 = gi_sz H 93) (fun zs hz iha => ?_) ((0 : Int32), H) ⟨h, (sq.refl m H), (show gi_sz H 93 = gi_sz H 93 by omega)⟩
  obtain ⟨y, Hsa⟩ := zs
  obtain ⟨hpa, hta, hza⟩ := hz
  have hpa : sd m Hsa := hpa
  have hta : sq m H Hsa := hta
  have hza : gi_sz Hsa 93 = gi_sz H 93 := hza
  show mu_W _ _ (2, [(1, .inl y), (0, .inr (.inr (some 92)))], [], Hsa) _
  refine mw_go mu_g172 (k := 3) (f1 := (7, [(1, .inl y), (0, .inr (.inr (some 92)))], [.inr (.inr (mu_r Hsa 92 2)), .inl y], Hsa)) (C := [mu_is Hsa (some 92) 12]) rfl (show mu_is Hsa (some 92) 12 from hpa.1.is rfl) ?_
  rw [hpa.2.2]
  refine mw_go mu_g172 (k := 1) (f1 := (10, [(1, .inl y), (0, .inr (.inr (some 92)))], [.inr (.inr (mu_r Hsa m 1)), .inl y], Hsa)) (C := [mu_is Hsa (some m) 6]) rfl (show mu_is Hsa (some m) 6 from (show mu_is Hsa (some m) 6 from gi_im hpa.1 hpa.2.1)) ?_
  rw [(show mu_r Hsa m 1 = some (m + 3) from (gi_mr hpa.1 hpa.2.1 (j := 1) (by decide)).trans (congrArg some (by omega)))]
  refine mw_go mu_g172 (k := 1) (f1 := (13, [(1, .inl y), (0, .inr (.inr (some 92)))], [.inl (mu_i Hsa (m + 3) 2), .inl y], Hsa)) (C := [mu_is Hsa (some (m + 3)) 10]) rfl (show mu_is Hsa (some (m + 3)) 10 from (hpa.1.w (md_w1 hpa.2.1)).1) ?_
  refine mw_if (P := y < (mu_i Hsa (m + 3) 2)) (a := 16) (b := 90) (fun _ => rfl) trivial (fun h1 => ?_) (fun h1 => ?_)
  · -- 16: y < (mu_i Hsa (m + 3) 2)
    have huph1 := i32_up h1
    refine mw_go mu_g172 (k := 2) (f1 := (20, [(1, .inl y), (0, .inr (.inr (some 92)))], [.inr (.inr (mu_r Hsa 92 2))], Hsa)) (C := [mu_is Hsa (some 92) 12]) rfl (show mu_is Hsa (some 92) 12 from hpa.1.is rfl) ?_
    rw [hpa.2.2]
    refine mw_go mu_g172 (k := 1) (f1 := (23, [(1, .inl y), (0, .inr (.inr (some 92)))], [.inr (.inr (mu_r Hsa m 1))], Hsa)) (C := [mu_is Hsa (some m) 6]) rfl (show mu_is Hsa (some m) 6 from (show mu_is Hsa (some m) 6 from gi_im hpa.1 hpa.2.1)) ?_
    rw [(show mu_r Hsa m 1 = some (m + 3) from (gi_mr hpa.1 hpa.2.1 (j := 1) (by decide)).trans (congrArg some (by omega)))]
    refine mw_go mu_g172 (k := 2) (f1 := (26, [(1, .inl y), (0, .inr (.inr (some 92)))], [.inl (7 : Int32), .inl y, .inr (.inr (some (m + 3)))], Hsa)) (C := []) rfl trivial ?_
    refine mw_cIe (fun _ => rfl) (show mu_is Hsa (some (m + 3)) 10 from (hpa.1.w (md_w1 hpa.2.1)).1) (gi_get_ok (d := (d + 2)) (H := Hsa) hpa.1 (md_w1 hpa.2.1) y (j := 7) (by decide)) ?_
    refine mw_if (P := (rw_get Hsa (m + 3) 11 (gi_sz Hsa (m + 3)) y 7) = 0) (a := 84) (b := 32) (fun _ => rfl) trivial (fun h3 => ?_) (fun h3 => ?_)
    · -- 84: (rw_get Hsa (m + 3) 11 (gi_sz Hsa (m + 3)) y 7) = 0
      refine mw_go mu_g172 (k := 2) (f1 := (2, [(1, .inl (y + 1)), (0, .inr (.inr (some 92)))], [], Hsa)) (C := []) rfl trivial ?_
      exact mw_sub (by simp) (iha ((y + 1), Hsa) ⟨hpa, hta, (show gi_sz Hsa 93 = gi_sz H 93 by omega)⟩ (by show (2147483647 - (y + 1).toInt).toNat < (2147483647 - y.toInt).toNat; omega))
    · -- 32: not (rw_get Hsa (m + 3) 11 (gi_sz Hsa (m + 3)) y 7) = 0
      refine mw_go mu_g172 (k := 2) (f1 := (36, [(1, .inl y), (0, .inr (.inr (some 92)))], [.inr (.inr (mu_r Hsa 92 2))], Hsa)) (C := [mu_is Hsa (some 92) 12]) rfl (show mu_is Hsa (some 92) 12 from hpa.1.is rfl) ?_
      rw [hpa.2.2]
      refine mw_go mu_g172 (k := 1) (f1 := (39, [(1, .inl y), (0, .inr (.inr (some 92)))], [.inr (.inr (mu_r Hsa m 1))], Hsa)) (C := [mu_is Hsa (some m) 6]) rfl (show mu_is Hsa (some m) 6 from (show mu_is Hsa (some m) 6 from gi_im hpa.1 hpa.2.1)) ?_
      rw [(show mu_r Hsa m 1 = some (m + 3) from (gi_mr hpa.1 hpa.2.1 (j := 1) (by decide)).trans (congrArg some (by omega)))]
      refine mw_go mu_g172 (k := 2) (f1 := (42, [(1, .inl y), (0, .inr (.inr (some 92)))], [.inl (6 : Int32), .inl y, .inr (.inr (some (m + 3)))], Hsa)) (C := []) rfl trivial ?_
      refine mw_cIe (fun _ => rfl) (show mu_is Hsa (some (m + 3)) 10 from (hpa.1.w (md_w1 hpa.2.1)).1) (gi_get_ok (d := (d + 2)) (H := Hsa) hpa.1 (md_w1 hpa.2.1) y (j := 6) (by decide)) ?_
      refine mw_go mu_g172 (k := 1) (f1 := (46, [(2, .inl (rw_get Hsa (m + 3) 11 (gi_sz Hsa (m + 3)) y 6)), (1, .inl y), (0, .inr (.inr (some 92)))], [], Hsa)) (C := []) rfl trivial ?_
      refine mw_sub (L' := [(2, .inl (rw_get Hsa (m + 3) 11 (gi_sz Hsa (m + 3)) y 6)), (0, .inr (.inr (some 92))), (1, .inl y)]) (by simp) ?_
      refine mw_down (α := Int32 × mu_H) (fun zs => (46, [(2, .inl zs.1), (0, .inr (.inr (some 92))), (1, .inl y)], [], zs.2)) (fun zs => (2147483647 - zs.1.toInt).toNat) (fun zs => sd m zs.2 ∧ sq m H zs.2 ∧ gi_sz zs.2 93 = gi_sz H 93) (fun zs hz ihb => ?_) ((rw_get Hsa (m + 3) 11 (gi_sz Hsa (m + 3)) y 6), Hsa) ⟨hpa, hta, (show gi_sz Hsa 93 = gi_sz H 93 by omega)⟩
      obtain ⟨z, Hsb⟩ := zs
      obtain ⟨hpb, htb, hzb⟩ := hz
      have hpb : sd m Hsb := hpb
      have htb : sq m H Hsb := htb
      have hzb : gi_sz Hsb 93 = gi_sz H 93 := hzb
      show mu_W _ _ (46, [(2, .inl z), (0, .inr (.inr (some 92))), (1, .inl y)], [], Hsb) _
      refine mw_go mu_g172 (k := 3) (f1 := (51, [(2, .inl z), (0, .inr (.inr (some 92))), (1, .inl y)], [.inr (.inr (mu_r Hsb 92 2)), .inl z], Hsb)) (C := [mu_is Hsb (some 92) 12]) rfl (show mu_is Hsb (some 92) 12 from hpb.1.is rfl) ?_
      rw [hpb.2.2]
      refine mw_go mu_g172 (k := 4) (f1 := (58, [(2, .inl z), (0, .inr (.inr (some 92))), (1, .inl y)], [.inr (.inr (mu_r Hsb 92 2)), .inl (6 : Int32), .inl y, .inr (.inr (some m)), .inl z], Hsb)) (C := [mu_is Hsb (some 92) 12]) rfl (show mu_is Hsb (some 92) 12 from hpb.1.is rfl) ?_
      rw [hpb.2.2]
      refine mw_go mu_g172 (k := 1) (f1 := (61, [(2, .inl z), (0, .inr (.inr (some 92))), (1, .inl y)], [.inr (.inr (mu_r Hsb m 9)), .inl (6 : Int32), .inl y, .inr (.inr (some m)), .inl z], Hsb)) (C := [mu_is Hsb (some m) 6]) rfl (show mu_is Hsb (some m) 6 from (show mu_is Hsb (some m) 6 from gi_im hpb.1 hpb.2.1)) ?_
      rw [(show mu_r Hsb m 9 = some (m + 19) from (gi_mr hpb.1 hpb.2.1 (j := 9) (by decide)).trans (congrArg some (by omega)))]
      refine mw_cI (fun _ => rfl) (show mu_is Hsb (some m) 6 from (show mu_is Hsb (some m) 6 from gi_im hpb.1 hpb.2.1)) (md_stop (d := (d + 1)) hpb.1 hpb.2.1 (md_w9 hpb.2.1) (c := 6) (by decide) y) (fun x5 H5 q5 => ?_)
      obtain ⟨rfl, hst5⟩ := q5
      refine mw_if (P := z < x5) (a := 67) (b := 84) (fun _ => rfl) trivial (fun h6 => ?_) (fun h6 => ?_)
      · -- 67: z < x5
        have huph6 := i32_up h6
        refine mw_go mu_g172 (k := 3) (f1 := (70, [(2, .inl z), (0, .inr (.inr (some 92))), (1, .inl y)], [.inl z, .inl y, .inr (.inr (some 92))], Hsb)) (C := []) rfl trivial ?_
        refine mw_cI (fun _ => rfl) (show mu_is Hsb (some 92) 12 from hpb.1.is rfl) (so_isKnown (d := d) hpb y z) (fun x7 H7 q7 => ?_)
        obtain ⟨qx7, hp7, qt7, qz7⟩ := q7; rcases qx7 with rfl | rfl
        · -- (0 : Int32)
          have ht7 := htb.trans qt7
          refine mw_if (P := (0 : Int32) = 0) (a := 76) (b := 78) (fun _ => rfl) trivial (fun h8 => ?_) (fun h8 => absurd (by decide) h8)
          refine mw_go mu_g172 (k := 1) (f1 := (77, [(2, .inl z), (0, .inr (.inr (some 92))), (1, .inl y)], [.inl (0 : Int32)], H7)) (C := []) rfl trivial ?_
          exact mw_of (fun _ => mu_ret rfl (Or.inl rfl) ⟨_, H7, rfl, Or.inl rfl, hp7, ht7, by omega⟩)
        · -- (1 : Int32)
          have ht7 := htb.trans qt7
          refine mw_if (P := (1 : Int32) = 0) (a := 76) (b := 78) (fun _ => rfl) trivial (fun h9 => absurd h9 (by decide)) (fun h9 => ?_)
          refine mw_go mu_g172 (k := 2) (f1 := (46, [(2, .inl (z + 1)), (0, .inr (.inr (some 92))), (1, .inl y)], [], H7)) (C := []) rfl trivial ?_
          exact mw_sub (by simp) (ihb ((z + 1), H7) ⟨hp7, ht7, (show gi_sz H7 93 = gi_sz H 93 by omega)⟩ (by show (2147483647 - (z + 1).toInt).toNat < (2147483647 - z.toInt).toNat; omega))
      · -- 84: not z < x5
        refine mw_go mu_g172 (k := 2) (f1 := (2, [(1, .inl (y + 1)), (2, .inl z), (0, .inr (.inr (some 92)))], [], Hsb)) (C := []) rfl trivial ?_
        exact mw_sub (by simp) (iha ((y + 1), Hsb) ⟨hpb, htb, (show gi_sz Hsb 93 = gi_sz H 93 by omega)⟩ (by show (2147483647 - (y + 1).toInt).toNat < (2147483647 - y.toInt).toNat; omega))
  · -- 90: not y < (mu_i Hsa (m + 3) 2)
    refine mw_go mu_g172 (k := 1) (f1 := (91, [(1, .inl y), (0, .inr (.inr (some 92)))], [.inl (1 : Int32)], Hsa)) (C := []) rfl trivial ?_
    exact mw_of (fun _ => mu_ret rfl (Or.inr rfl) ⟨_, Hsa, rfl, Or.inr rfl, hpa, hta, by omega⟩)
end SoundMethods
