/-! A step of a frame is the evaluator's -/
def mu_e (f : mu_F) (w : List ev_C) (c n : Nat) : ev_F := (f.1, mu_m f.2.1, f.2.2.1.map mu_v, w, c, n)
/-- the evaluator's step, from f to f1 -/
def mu_to (step : Option ev_F) (f f1 : mu_F) (c n : Nat) : Prop := ∃ w1, step = some (mu_e f1 w1 (c + (mu_c f1.2.2.2 - mu_c f.2.2.2)) (n + (mu_s f1.2.2.2 - mu_s f.2.2.2))) ∧ mu_rep f1.2.2.2 w1 ∧ mu_c f.2.2.2 ≤ mu_c f1.2.2.2 ∧ mu_s f.2.2.2 ≤ mu_s f1.2.2.2
theorem mu_keep {step : Option ev_F} {f f1 : mu_F} {w : List ev_C} {c n : Nat} (hr : mu_rep f.2.2.2 w) (hH : f1.2.2.2 = f.2.2.2) (h : step = some (mu_e f1 w c n)) : mu_to step f f1 c n := by
  refine ⟨w, ?_, by rw [hH]; exact hr, by rw [hH]; exact Nat.le_refl _, by rw [hH]; exact Nat.le_refl _⟩
  rw [h, hH, Nat.sub_self, Nat.sub_self]
  rfl
theorem mu_v_I (v : mu_V) : ev_isI (mu_v v) = mu_isI v := by
  rcases v with x | x | o
  · rfl
  · rfl
  · cases o with
    | none => rfl
    | some k =>
      show ev_isI (bif Nat.ble 1000000 k then (bif Nat.beq k 3000000 then _ else _) else _) = false
      cases Nat.ble 1000000 k <;> cases Nat.beq k 3000000 <;> rfl
theorem mu_v_L (v : mu_V) : ev_isL (mu_v v) = mu_isL v := by
  rcases v with x | x | o
  · rfl
  · rfl
  · cases o with
    | none => rfl
    | some k =>
      show ev_isL (bif Nat.ble 1000000 k then (bif Nat.beq k 3000000 then _ else _) else _) = false
      cases Nat.ble 1000000 k <;> cases Nat.beq k 3000000 <;> rfl
theorem mu_v_R (v : mu_V) : ev_isR (mu_v v) = mu_isR v := by
  rcases v with x | x | o
  · rfl
  · rfl
  · exact mu_v_isR o
theorem mu_some {α : Type} {b : Bool} {x y : α} (h : (bif b then some x else none) = some y) : b = true ∧ x = y := ev_bif h
theorem mu_ld_ok {chk : mu_V → Bool} {chk' : ev_V → Bool} {i len c n : Nat} {f f1 : mu_F} {C : List Prop} {w : List ev_C} (hchk : ∀ v, chk' (mu_v v) = chk v) (hr : mu_rep f.2.2.2 w) (h : mu_ld chk i len f = some (f1, C)) : mu_to (ev_load chk' i len (mu_e f w c n)) f f1 c n := by
  obtain ⟨pc, L, S, H⟩ := f
  unfold mu_ld at h
  dsimp only at h
  split at h
  · rename_i v hv
    obtain ⟨h1, h2⟩ := mu_some h
    cases h2
    refine mu_keep hr rfl ?_
    unfold ev_load mu_e
    dsimp only
    rw [mu_look_m, hv]
    show (bif chk' (mu_v v) then _ else none) = _
    rw [hchk, h1]
    rfl
  · cases h
theorem mu_st_ok {chk : mu_V → Bool} {chk' : ev_V → Bool} {nL i len c n : Nat} {f f1 : mu_F} {C : List Prop} {w : List ev_C} (hchk : ∀ v, chk' (mu_v v) = chk v) (hr : mu_rep f.2.2.2 w) (h : mu_st chk nL i len f = some (f1, C)) : mu_to (ev_store chk' nL i len (mu_e f w c n)) f f1 c n := by
  obtain ⟨pc, L, S, H⟩ := f
  unfold mu_st at h
  split at h
  · rename_i pc' L' v S' H' heq
    cases heq
    obtain ⟨h1, h2⟩ := mu_some h
    cases h2
    refine mu_keep hr rfl ?_
    show (bif chk' (mu_v v) && Nat.blt i nL then some (pc + len, (i, mu_v v) :: ev_del (mu_m L) i, S'.map mu_v, w, c, n) else none) = _
    rw [hchk, h1, mu_del_m]
    rfl
  · cases h
theorem mu_st2_ok {nL i len c n : Nat} {f f1 : mu_F} {C : List Prop} {w : List ev_C} (hr : mu_rep f.2.2.2 w) (h : mu_st2 nL i len f = some (f1, C)) : mu_to (ev_storeL nL i len (mu_e f w c n)) f f1 c n := by
  obtain ⟨pc, L, S, H⟩ := f
  unfold mu_st2 at h
  split at h
  · rename_i pc' L' v S' H' heq
    cases heq
    obtain ⟨h1, h2⟩ := mu_some h
    cases h2
    refine mu_keep hr rfl ?_
    show (bif ev_isL (mu_v v) && Nat.blt (i + 1) nL then some (pc + len, (i, mu_v v) :: ev_del2 (mu_m L) i, S'.map mu_v, w, c, n) else none) = _
    rw [mu_v_L, h1, mu_del2_m]
    rfl
  · cases h
theorem mu_b2_ok {g : Int32 → Int32 → Int32} {c n : Nat} {f f1 : mu_F} {C : List Prop} {w : List ev_C} (hr : mu_rep f.2.2.2 w) (h : mu_b2 g f = some (f1, C)) : mu_to (ev_bin g (mu_e f w c n)) f f1 c n := by
  unfold mu_b2 at h
  split at h
  · cases h
    exact mu_keep hr rfl rfl
  · cases h
theorem mu_b1_ok {g : Int32 → Int32} {c n : Nat} {f f1 : mu_F} {C : List Prop} {w : List ev_C} (hr : mu_rep f.2.2.2 w) (h : mu_b1 g f = some (f1, C)) : mu_to (ev_un g (mu_e f w c n)) f f1 c n := by
  unfold mu_b1 at h
  split at h
  · cases h
    exact mu_keep hr rfl rfl
  · cases h
theorem mu_l2_ok {g : Int64 → Int64 → Int64} {c n : Nat} {f f1 : mu_F} {C : List Prop} {w : List ev_C} (hr : mu_rep f.2.2.2 w) (h : mu_l2 g f = some (f1, C)) : mu_to (ev_binL g (mu_e f w c n)) f f1 c n := by
  unfold mu_l2 at h
  split at h
  · cases h
    exact mu_keep hr rfl rfl
  · cases h
theorem mu_ls_ok {g : Int64 → Int32 → Int64} {c n : Nat} {f f1 : mu_F} {C : List Prop} {w : List ev_C} (hr : mu_rep f.2.2.2 w) (h : mu_ls g f = some (f1, C)) : mu_to (ev_shL g (mu_e f w c n)) f f1 c n := by
  unfold mu_ls at h
  split at h
  · cases h
    exact mu_keep hr rfl rfl
  · cases h
/-- a cell by its place -/
theorem mu_at {H : mu_H} {w : List ev_C} (hr : mu_rep H w) {o : Option Nat} {kd : Nat} (h : mu_is H o kd) : ∃ x, w[mu_p o]? = some x ∧ mu_cell H (mu_p o) x ∧ mu_v (.inr (.inr o)) = .inl (.ref (mu_p o)) := by
  obtain ⟨h1, h2, h3⟩ := h
  have hl : mu_p o < w.length := by rw [hr.1]; exact h2
  have hx : w[mu_p o]? = some (w[mu_p o]) := List.getElem?_eq_getElem hl
  refine ⟨_, hx, hr.2.2 _ _ hx, ?_⟩
  have := hr.2.1.1
  rw [h1]
  exact mu_v_ref (by omega)
theorem mu_atO {H : mu_H} {w : List ev_C} (hr : mu_rep H w) {o : Option Nat} {ci : Nat} (h : mu_is H o ci) (hci : ci < 100) : w[mu_p o]? = some (.inl (ci, mu_fs H (mu_p o) 0 (mu_ft ci))) ∧ mu_v (.inr (.inr o)) = .inl (.ref (mu_p o)) := by
  obtain ⟨x, h1, h2, h3⟩ := mu_at hr h
  refine ⟨?_, h3⟩
  rcases x with (⟨cj, fs⟩ | ⟨t, N, d, wr⟩)
  · obtain ⟨e1, -, e2⟩ := h2
    have : cj = ci := e1.symm.trans h.2.2
    subst this
    rw [h1, e2]
  · have e1 : mu_k H (mu_p o) = 100 + t := h2.1
    have := h.2.2
    omega
theorem mu_atA {H : mu_H} {w : List ev_C} (hr : mu_rep H w) {o : Option Nat} {t : Nat} (h : mu_is H o (100 + t)) : ∃ d wr, w[mu_p o]? = some (.inr (t, mu_n H (mu_p o), d, wr)) ∧ (∀ i, i < mu_n H (mu_p o) → ev_at d wr i = mu_v (mu_f H (mu_p o) i (mu_et t))) ∧ mu_v (.inr (.inr o)) = .inl (.ref (mu_p o)) := by
  obtain ⟨x, h1, h2, h3⟩ := mu_at hr h
  rcases x with (⟨cj, fs⟩ | ⟨t', N, d, wr⟩)
  · obtain ⟨e1, e2, -⟩ := h2
    have := h.2.2
    omega
  · obtain ⟨e1, e2, e3⟩ := h2
    have et : t' = t := by have := h.2.2; omega
    subst et
    subst e2
    exact ⟨d, wr, h1, e3, h3⟩
theorem mu_ix {i : Int32} {N : Nat} (h : vp_in i N) : ev_ix N (.inl (.int i)) = some i.toNatClampNeg ∧ i.toNatClampNeg < N := by
  have h0 : ¬ i < 0 := fun q => h (Or.inl q)
  have h1 : i.toNatClampNeg < N := Nat.not_le.mp fun q => h (Or.inr q)
  refine ⟨?_, h1⟩
  show (bif decide (i < 0) then none else bif Nat.ble N i.toNatClampNeg then none else some i.toNatClampNeg) = _
  have h2 : Nat.ble N i.toNatClampNeg = false := by
    cases hb : Nat.ble N i.toNatClampNeg with
    | false => rfl
    | true => exact absurd (Nat.le_of_ble_eq_true hb) (by omega)
  simp [h0, h2]
/-- two heaps agree at a place -/
def mu_same (H H' : mu_H) (p : Nat) : Prop := mu_k H' p = mu_k H p ∧ mu_n H' p = mu_n H p ∧ ∀ j tc, mu_f H' p j tc = mu_f H p j tc
theorem mu_cell_same {H H' : mu_H} {p : Nat} {x : ev_C} (h : mu_same H H' p) (hc : mu_cell H p x) : mu_cell H' p x := by
  obtain ⟨h1, h2, h3⟩ := h
  rcases x with (⟨cj, fs⟩ | ⟨t', N, d, wr⟩)
  · obtain ⟨e1, e2, e3⟩ := hc
    exact ⟨h1.trans e1, e2, by rw [e3]; exact (mu_fs_congr 0 _ (fun i tc _ => h3 i tc)).symm⟩
  · obtain ⟨e1, e2, e3⟩ := hc
    exact ⟨h1.trans e1, h2.trans e2, fun i hi => by rw [e3 i hi, h3]⟩
theorem mu_ot_same {H H' : mu_H} (h : mu_ot H) (ho : ∀ p, 1000000 ≤ p → mu_same H H' p) : mu_ot H' := fun j hj => by
  obtain ⟨a1, a2, a3⟩ := h j hj
  obtain ⟨b1, b2, b3⟩ := ho (1001000 + j) (by omega)
  refine ⟨b1.trans a1, b2.trans a2, fun i => ?_⟩
  have := b3 i 0
  exact (Sum.inl.inj this).trans (a3 i)
theorem mu_rep_set {H H' : mu_H} {w : List ev_C} {q : Nat} {x : ev_C} (hr : mu_rep H w) (hz : mu_z H' = mu_z H) (hq : q < mu_z H) (hc : mu_cell H' q x) (ho : ∀ p, p ≠ q → mu_same H H' p) : mu_rep H' (w.set q x) := by
  refine ⟨by rw [List.length_set, hz]; exact hr.1, ⟨by rw [hz]; exact hr.2.1.1, mu_ot_same hr.2.1.2 (fun p hp => ho p (by have := hr.2.1.1; omega))⟩, fun p y hy => ?_⟩
  by_cases e : q = p
  · subst e
    have hl : q < w.length := by
      have := (List.getElem?_eq_some_iff.mp hy).1
      simpa using this
    rw [List.getElem?_set_self hl] at hy
    cases hy
    exact hc
  · rw [List.getElem?_set_ne e] at hy
    exact mu_cell_same (ho p (Ne.symm e)) (hr.2.2 p y hy)
theorem mu_same_nw {H : mu_H} {kd len sl p : Nat} (h : p ≠ mu_z H) : mu_same H (mu_nw H kd len sl) p := by
  refine ⟨by rw [mu_k_nw, if_neg h], by rw [mu_n_nw, if_neg h], fun j tc => ?_⟩
  unfold mu_f
  split
  · rw [mu_r_nw, if_neg h]
  · rw [mu_l_nw, if_neg h]
  · rw [mu_i_nw, if_neg h]
theorem mu_rep_push {H : mu_H} {w : List ev_C} {x : ev_C} {kd len sl : Nat} (hr : mu_rep H w) (hz : mu_z H + 1 ≤ 1000000) (hc : mu_cell (mu_nw H kd len sl) (mu_z H) x) : mu_rep (mu_nw H kd len sl) (w ++ [x]) := by
  refine ⟨by rw [List.length_append, hr.1]; rfl, ⟨hz, mu_ot_same hr.2.1.2 (fun p hp => mu_same_nw (by omega))⟩, fun p y hy => ?_⟩
  by_cases e : p < w.length
  · rw [List.getElem?_append_left e] at hy
    exact mu_cell_same (mu_same_nw (by have := hr.1; omega)) (hr.2.2 p y hy)
  · have hl := (List.getElem?_eq_some_iff.mp hy).1
    simp at hl
    have ep : p = w.length := by omega
    subst ep
    simp at hy
    subst hy
    rw [hr.1]
    exact hc
theorem mu_same_si {H : mu_H} {q k p : Nat} {x : Int32} (h : p ≠ q) : mu_same H (mu_si H q k x) p := by
  refine ⟨rfl, rfl, fun j tc => ?_⟩
  unfold mu_f
  split
  · rfl
  · rfl
  · rw [mu_i_si, if_neg (fun z => h z.1)]
theorem mu_same_sl {H : mu_H} {q k p : Nat} {x : Int64} (h : p ≠ q) : mu_same H (mu_sl H q k x) p := by
  refine ⟨rfl, rfl, fun j tc => ?_⟩
  unfold mu_f
  split
  · rfl
  · rw [mu_l_sl, if_neg (fun z => h z.1)]
  · rfl
theorem mu_same_sr {H : mu_H} {q k p : Nat} {x : Option Nat} (h : p ≠ q) : mu_same H (mu_sr H q k x) p := by
  refine ⟨rfl, rfl, fun j tc => ?_⟩
  unfold mu_f
  split
  · rw [mu_r_sr, if_neg (fun z => h z.1)]
  · rfl
  · rfl
/-- a write that makes no cell -/
theorem mu_put {step : Option ev_F} {f : mu_F} {pc1 : Nat} {L1 : mu_L} {S1 : List mu_V} {H1 : mu_H} {w : List ev_C} {x : ev_C} {q c n : Nat} (hr : mu_rep f.2.2.2 w) (hz : mu_z H1 = mu_z f.2.2.2) (hcc : mu_c H1 = mu_c f.2.2.2) (hs : mu_s H1 = mu_s f.2.2.2) (hq : q < mu_z f.2.2.2) (hc : mu_cell H1 q x) (ho : ∀ p, p ≠ q → mu_same f.2.2.2 H1 p) (h : step = some (pc1, mu_m L1, S1.map mu_v, w.set q x, c, n)) : mu_to step f (pc1, L1, S1, H1) c n := by
  refine ⟨w.set q x, ?_, mu_rep_set hr hz hq hc ho, by rw [hcc]; exact Nat.le_refl _, by rw [hs]; exact Nat.le_refl _⟩
  rw [h]
  show _ = some (pc1, mu_m L1, S1.map mu_v, w.set q x, c + (mu_c H1 - _), n + (mu_s H1 - _))
  rw [hcc, hs, Nat.sub_self, Nat.sub_self]
  rfl
theorem mu_ft_get {ci k N : Nat} {C : String} {T : u_T} (hc : ev_cl[ci]? = some (C, T, N)) (hk : k < N) : (mu_ft ci)[k]? = some (mu_tc (ev_Y ci k)) := by
  unfold mu_ft
  rw [hc]
  simp [hk]
theorem mu_cl_lt {ci : Nat} {q : vw_C} (h : ev_cl[ci]? = some q) : ci < 100 := by
  have := (List.getElem?_eq_some_iff.mp h).1
  have : ci < 21 := this
  omega
theorem mu_f_getD {H : mu_H} {q k ci tc : Nat} (h : (mu_ft ci)[k]? = some tc) : mu_f H q k ((mu_ft ci).getD k 0) = mu_f H q k tc := by
  rw [List.getD_eq_getElem?_getD, h]
  rfl
