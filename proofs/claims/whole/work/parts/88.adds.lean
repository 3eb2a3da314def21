/-! SOUND: rows of MODULES rise; members are added -/
section ModuleRows
variable {H H1 : mu_H} {m i c : Nat} {S : Nat → Bool}
/-- the table that a column of the MODULES speaks of -/
def tabc (c : Nat) : Nat := [0, 2, 3, 6, 7, 8, 9].getD c 0
/-- where the rows of the i-th MODULE begin; behind the last: the table's end -/
def msp (H : mu_H) (m i c : Nat) : Nat := if i < gi_sz H (m + 3) then (cel H (m + 3) (i * 11 + c)).toNatClampNeg else gi_sz H (m + 1 + 2 * tabc c)
def mo (m : Nat) (H : mu_H) : Prop := ∀ i, i < gi_sz H (m + 3) → ∀ c, 1 ≤ c → c ≤ 6 → cel H (m + 3) (i * 11 + c) = nI (msp H m i c) ∧ msp H m i c ≤ msp H m (i + 1) c ∧ msp H m (i + 1) c ≤ gi_sz H (m + 1 + 2 * tabc c)
/-- a LIST's first value and how many there are; how many up to a VAR -/
def va (H : mu_H) (m k : Nat) : Nat := (cel H (m + 7) (k * 6 + 2)).toNatClampNeg
def vb (H : mu_H) (m k : Nat) : Nat := (cel H (m + 7) (k * 6 + 3)).toNatClampNeg
def lsum (H : mu_H) (m : Nat) : Nat → Nat
  | 0 => 0
  | k + 1 => lsum H m k + (if cel H (m + 7) (k * 6 + 1) = 2 then vb H m k else 0)
def vl (m : Nat) (H : mu_H) : Prop := (∀ k, k < gi_sz H (m + 7) → cel H (m + 7) (k * 6 + 1) = 2 → cel H (m + 7) (k * 6 + 2) = nI (va H m k) ∧ cel H (m + 7) (k * 6 + 3) = nI (vb H m k) ∧ va H m k + vb H m k ≤ gi_sz H (m + 9)) ∧ lsum H m (gi_sz H (m + 7)) ≤ gi_sz H (m + 9)
theorem lsum_le {a b : Nat} (h : a ≤ b) : lsum H m a ≤ lsum H m b := by
  obtain ⟨k, rfl⟩ : ∃ k, b = a + k := ⟨b - a, by omega⟩
  clear h
  induction k with
  | zero => exact Nat.le_refl _
  | succ k ih => exact Nat.le_trans ih (Nat.le_add_right _ _)
theorem sq.m3 (h : sq m H H1) : gi_sz H1 (m + 3) = gi_sz H (m + 3) := (h.2.2.1 1 (by decide)).1
theorem sq.c3 (h : sq m H H1) (hc : c ≤ 6) : cel H1 (m + 3) (i * 11 + c) = cel H (m + 3) (i * 11 + c) := h.2.2.2.1 1 (by decide) i c (by show c < 11; omega) (decide_eq_true hc)
theorem sq.c7 (h : sq m H H1) (hc : c ≤ 3) : cel H1 (m + 7) (i * 6 + c) = cel H (m + 7) (i * 6 + c) := h.2.2.2.1 3 (by decide) i c (by show c < 6; omega) (decide_eq_true hc)
theorem mo.start (h : mo m H) (hm : m = 2 ∨ m = 41) (hg : gi H1) (hq : sq m H H1) (hi : i < gi_sz H (m + 3)) (h1 : 1 ≤ c) (h6 : c ≤ 6) : rw_get H1 (m + 3) 11 (gi_sz H1 (m + 3)) (nI i) c = nI (msp H m i c) := by
  have hn := rw_n (hg.w (md_w1 hm))
  rw [rw_get_at hn (by rw [hq.m3]; exact hi) (by omega), hq.c3 h6]
  exact (h i hi c h1 h6).1
theorem mo.le (h : mo m H) (hg : gi H) (hm : m = 2 ∨ m = 41) (hi : i < gi_sz H (m + 3)) (h1 : 1 ≤ c) (h6 : c ≤ 6) : msp H m i c ≤ msp H m (i + 1) c ∧ msp H m (i + 1) c ≤ gi_sz H (m + 1 + 2 * tabc c) ∧ gi_sz H (m + 1 + 2 * tabc c) ≤ 67108864 := by
  refine ⟨(h i hi c h1 h6).2.1, (h i hi c h1 h6).2.2, ?_⟩
  have ht : tabc c < 19 := by
    have : c = 1 ∨ c = 2 ∨ c = 3 ∨ c = 4 ∨ c = 5 ∨ c = 6 := by omega
    rcases this with e | e | e | e | e | e <;> subst e <;> decide
  exact rw_n (hg.w (ps_wm hm ht))
theorem mo.stop (h : mo m H) (hm : m = 2 ∨ m = 41) (hg0 : gi H) (hg : gi H1) (hq : sq m H H1) (hi : i < gi_sz H (m + 3)) (h1 : 1 ≤ c) (h6 : c ≤ 6) {x : Int32} {r : Nat} (hr : r = m + 1 + 2 * tabc c) (hst : (x = rw_get H1 (m + 3) 11 (gi_sz H1 (m + 3)) (nI i + 1) c ∧ nI i + 1 < mu_i H1 (m + 3) 2) ∨ (x = mu_i H1 r 2 ∧ ¬ nI i + 1 < mu_i H1 (m + 3) 2)) : x = nI (msp H m (i + 1) c) := by
  have hn := rw_n (hg.w (md_w1 hm))
  have hn0 := rw_n (hg0.w (md_w1 hm))
  have e3 : mu_i H1 (m + 3) 2 = nI (gi_sz H (m + 3)) := by rw [← hq.m3]; exact (hg.w (md_w1 hm)).2.2.2.1
  have ht : tabc c < 19 := by
    have : c = 1 ∨ c = 2 ∨ c = 3 ∨ c = 4 ∨ c = 5 ∨ c = 6 := by omega
    rcases this with e | e | e | e | e | e <;> subst e <;> decide
  rw [e3, nI_1] at hst
  rcases hst with ⟨z1, z2⟩ | ⟨z1, z2⟩
  · have hlt : i + 1 < gi_sz H (m + 3) := (nI_ltI (by omega) (by omega)).mp z2
    rw [z1]
    exact h.start hm hg hq hlt h1 h6
  · have hnl : ¬ i + 1 < gi_sz H (m + 3) := fun z => z2 (nI_lt z (by omega))
    rw [z1, hr, show mu_i H1 (m + 1 + 2 * tabc c) 2 = nI (gi_sz H1 (m + 1 + 2 * tabc c)) from (hg.w (ps_wm hm ht)).2.2.2.1, (hq.2.2.1 _ ht).1]
    unfold msp
    rw [if_neg hnl]
theorem vl.cell (hm : m = 2 ∨ m = 41) (hg : gi H1) (hq : sq m H H1) (hi : i < gi_sz H (m + 7)) (hc : c ≤ 3) : rw_get H1 (m + 7) 6 (gi_sz H1 (m + 7)) (nI i) c = cel H (m + 7) (i * 6 + c) := by
  have hn := rw_n (hg.w (md_w3 hm))
  have e : gi_sz H1 (m + 7) = gi_sz H (m + 7) := (hq.2.2.1 3 (by decide)).1
  rw [rw_get_at hn (by rw [e]; exact hi) (by omega), hq.c7 hc]
theorem b_and {x y : Int32} (h : x = 0 ∨ x = 1) (h' : y = 0 ∨ y = 1) : x &&& y = 0 ∨ x &&& y = 1 := by
  rcases h with e | e <;> rcases h' with e' | e' <;> subst e <;> subst e' <;> decide
/-- an array of ints of an owner in S -/
theorem gk.onla {p j : Nat} (h : gi H) (ho : mu_onl H H1 (mu_p (mu_r H p j))) (hS : S p = true) (hp : gi_o p j = true) : gk S H H1 := by
  obtain ⟨a, b, c, e, f, g, i, j', l⟩ := lk.onl (S := S) h ho hS (Or.inl hp)
  refine ⟨a, b, c, e, fun q hq hk => ho.same (fun e1 => ?_), g, i, j'⟩
  have := (h.o hp).2.2
  rw [e1] at hk
  omega
theorem sd.other {g : Nat → Bool} (h : sd m H) (hg1 : gi H1) (hk : gk g H H1) (hS : ∀ p, g p = true → p = 92 ∨ p = 93) (h92 : ∀ j, mu_r H1 92 j = mu_r H 92 j) (hz : gi_sz H 93 ≤ gi_sz H1 93) (hc : gi_cap H1 93 ≤ max (gi_cap H 93) (10 * gi_sz H1 93 + 5)) : sd m H1 ∧ sq m H H1 := by
  obtain ⟨hg, hm, h2⟩ := h
  have hf : ∀ j, j < 19 → g (m + 1 + 2 * j) = false := fun j hj => by
    cases hx : g (m + 1 + 2 * j) with
    | false => rfl
    | true => have := hS _ hx; omega
  refine ⟨⟨hg1, hm, by rw [h92]; exact h2⟩, hk.mono (fun p hp => decide_eq_true (by have := hS p hp; omega)), h92, fun j hj => ?_, fun j hj i c _ _ => ?_, hz, hc⟩
  · obtain ⟨-, -, -, hrk, hro⟩ := gi_w_ok (ps_wm hm hj)
    have hs := hk.obj hrk (hf j hj)
    refine ⟨by unfold gi_sz; rw [hs.i], ?_⟩
    unfold gi_cap
    rw [hs.r, (hk.2.1 _ (hg.o hro).2.1).2]
  · obtain ⟨-, -, -, hrk, hro⟩ := gi_w_ok (ps_wm hm hj)
    unfold cel
    rw [(hk.obj hrk (hf j hj)).r]
    exact (hk.2.2.2.1 _ 1 hro (hf j hj)).i _
end ModuleRows
section SoundAdds
variable {H : mu_H} {d m i : Nat}
/-- PathProver$Sound.add(IIII)Z -/
abbrev mu_m178 : ev_M := (7, (some .boolean), [], ev_b178)
theorem mu_g178 : mu_good mu_m178 := mu_goodk ev_k178
theorem so_add (h : sd m H) (hz : (gi_sz H 93 + 1) * 5 ≤ 4194304) (a1 a2 a3 a4 : Int32) : mu_TI (mu_D (d + 4)) 178 [.inr (.inr (some 92)), .inl a1, .inl a2, .inl a3, .inl a4] H (fun x H1 => (x = 0 ∨ x = 1) ∧ sd m H1 ∧ sq m H H1 ∧ gi_sz H1 93 ≤ gi_sz H 93 + 1) := by
  have hm := h.2.1
  refine mu_meth (M := mu_m178) rfl rfl ?_
  refine mw_ht (mu_fn_of (show [0, 1, 2, 3, 4].Nodup by decide)) ?_
  refine mw_go mu_g178 (k := 3) (f1 := (3, [(0, .inr (.inr (some 92))), (1, .inl a1), (2, .inl a2), (3, .inl a3), (4, .inl a4)], [.inl a2, .inl a1, .inr (.inr (some 92))], H)) (C := []) rfl trivial ?_
  refine mw_cI (fun _ => rfl) (show mu_is H (some 92) 12 from h.1.is rfl) (so_find (d := (d + 1)) h.1 a1 a2) (fun x1 H1 q1 => ?_)
  obtain rfl := q1
  refine mw_if (P := x1 < 0) (a := 11) (b := 9) (fun _ => rfl) trivial (fun h2 => ?_) (fun h2 => ?_)
  · -- 11: x1 < 0
    refine mw_go mu_g178 (k := 3) (f1 := (14, [(0, .inr (.inr (some 92))), (1, .inl a1), (2, .inl a2), (3, .inl a3), (4, .inl a4)], [.inl a2, .inl a1, .inr (.inr (some 92))], H)) (C := []) rfl trivial ?_
    refine mw_cI (fun _ => rfl) (show mu_is H (some 92) 12 from h.1.is rfl) (so_hash (d := (d + 2)) h.1 a1 a2) (fun x3 H3 q3 => ?_)
    obtain ⟨rfl, hd, hhd, rfl⟩ := q3
    refine mw_go mu_g178 (k := 3) (f1 := (23, [(5, .inl (nI hd)), (0, .inr (.inr (some 92))), (1, .inl a1), (2, .inl a2), (3, .inl a3), (4, .inl a4)], [.inr (.inr (mu_r H 92 0))], H)) (C := [mu_is H (some 92) 12]) rfl (show mu_is H (some 92) 12 from h.1.is rfl) ?_
    rw [(h.1.r (p := 92) (j := 0) (q := 93) rfl)]
    refine mw_go mu_g178 (k := 4) (f1 := (28, [(5, .inl (nI hd)), (0, .inr (.inr (some 92))), (1, .inl a1), (2, .inl a2), (3, .inl a3), (4, .inl a4)], [.inl a4, .inl a3, .inl a2, .inl a1, .inr (.inr (some 93))], H)) (C := []) rfl trivial ?_
    refine mw_cI (fun _ => rfl) (show mu_is H (some 93) 10 from h.1.is rfl) (gi_put_ok (d := d) h.1 (r := 93) (W := 5) rfl hz a1 a2 a3 a4) (fun x4 H4 q4 => ?_)
    obtain ⟨-, qg4, qq4⟩ := q4
    obtain ⟨hp4, qt4⟩ := h.other qg4 qq4.1 (fun p hp => Or.inr (Nat.eq_of_beq_eq_true hp)) (fun j => (qq4.1.obj (p := 92) (k := 12) rfl rfl).r j) (by have := qq4.2.1; omega) (by have := qq4.2.2.2.1.1; omega)
    have ht4 := (sq.refl m H).trans qt4
    have z4 := qq4.2.1
    refine mw_go mu_g178 (k := 3) (f1 := (37, [(6, .inl x4), (5, .inl (nI hd)), (0, .inr (.inr (some 92))), (1, .inl a1), (2, .inl a2), (3, .inl a3), (4, .inl a4)], [.inr (.inr (mu_r H4 92 0))], H4)) (C := [mu_is H4 (some 92) 12]) rfl (show mu_is H4 (some 92) 12 from hp4.1.is rfl) ?_
    rw [(hp4.1.r (p := 92) (j := 0) (q := 93) rfl)]
    refine mw_go mu_g178 (k := 4) (f1 := (44, [(6, .inl x4), (5, .inl (nI hd)), (0, .inr (.inr (some 92))), (1, .inl a1), (2, .inl a2), (3, .inl a3), (4, .inl a4)], [.inr (.inr (mu_r H4 92 1)), .inl (4 : Int32), .inl x4, .inr (.inr (some 93))], H4)) (C := [mu_is H4 (some 92) 12]) rfl (show mu_is H4 (some 92) 12 from hp4.1.is rfl) ?_
    rw [(hp4.1.r (p := 92) (j := 1) (q := 95) rfl)]
    refine mw_go mu_g178 (k := 2) (f1 := (47, [(6, .inl x4), (5, .inl (nI hd)), (0, .inr (.inr (some 92))), (1, .inl a1), (2, .inl a2), (3, .inl a3), (4, .inl a4)], [.inl (mu_i H4 95 (nI hd).toNatClampNeg), .inl (4 : Int32), .inl x4, .inr (.inr (some 93))], H4)) (C := [mu_isr H4 (some 95) 100, vp_in (nI hd) (mu_n H4 95)]) rfl (show (mu_isr H4 (some 95) 100) ∧ (vp_in (nI hd) (mu_n H4 95)) from ⟨((hp4.1.a (p := 95) (x := (100, 512)) rfl).1).r, (by rw [(hp4.1.a (p := 95) (x := (100, 512)) rfl).2]; exact vp_in_nI hhd (by decide))⟩) ?_
    refine mw_cV (fun _ => rfl) (show mu_is H4 (some 93) 10 from hp4.1.is rfl) (gi_set_ok (d := (d + 2)) hp4.1 (r := 93) (W := 5) rfl x4 (mu_i H4 95 (nI hd).toNatClampNeg) (j := 4) (by decide)) (fun H5 q5 => ?_)
    have gs5 := (hp4.1.set (r := 93) (W := 5) (j := 4) (row := x4) (v := (mu_i H4 95 (nI hd).toNatClampNeg)) rfl)
    have kk5 : gk (fun p => Nat.beq p 93) H4 (rw_set H4 93 5 (gi_sz H4 93) x4 4 (mu_i H4 95 (nI hd).toNatClampNeg)) := gk.set hp4.1 rfl rfl
    have hz5 : gi_sz (rw_set H4 93 5 (gi_sz H4 93) x4 4 (mu_i H4 95 (nI hd).toNatClampNeg)) 93 = gi_sz H4 93 := congrArg Int32.toNatClampNeg (gs5.2 93 2 (by have : mu_k H4 93 = 10 := hp4.1.2.1 93 10 rfl; omega))
    have hc5 : gi_cap (rw_set H4 93 5 (gi_sz H4 93) x4 4 (mu_i H4 95 (nI hd).toNatClampNeg)) 93 = gi_cap H4 93 := by unfold gi_cap mu_n; rw [rw_set_r, (rw_set_eq _ _ _ _ _ _ _).2.1]
    rw [← q5] at gs5 kk5 hz5 hc5
    obtain ⟨hp5, qt5⟩ := hp4.other gs5.1 kk5 (fun p hp => Or.inr (Nat.eq_of_beq_eq_true hp)) (fun j => (kk5.obj (p := 92) (k := 12) rfl rfl).r j) (by omega) (by omega)
    have ht5 := ht4.trans qt5
    refine mw_go mu_g178 (k := 2) (f1 := (54, [(6, .inl x4), (5, .inl (nI hd)), (0, .inr (.inr (some 92))), (1, .inl a1), (2, .inl a2), (3, .inl a3), (4, .inl a4)], [.inr (.inr (mu_r H5 92 1))], H5)) (C := [mu_is H5 (some 92) 12]) rfl (show mu_is H5 (some 92) 12 from hp5.1.is rfl) ?_
    rw [(hp5.1.r (p := 92) (j := 1) (q := 95) rfl)]
    refine mw_go mu_g178 (k := 2) (f1 := (58, [(6, .inl x4), (5, .inl (nI hd)), (0, .inr (.inr (some 92))), (1, .inl a1), (2, .inl a2), (3, .inl a3), (4, .inl a4)], [.inl x4, .inl (nI hd), .inr (.inr (some 95))], H5)) (C := []) rfl trivial ?_
    refine mw_go mu_g178 (k := 1) (f1 := (59, [(6, .inl x4), (5, .inl (nI hd)), (0, .inr (.inr (some 92))), (1, .inl a1), (2, .inl a2), (3, .inl a3), (4, .inl a4)], [], (mu_si H5 95 (nI hd).toNatClampNeg x4))) (C := [mu_is H5 (some 95) 100, vp_in (nI hd) (mu_n H5 95)]) rfl ⟨(hp5.1.a (p := 95) (x := (100, 512)) rfl).1, (by rw [(hp5.1.a (p := 95) (x := (100, 512)) rfl).2]; exact vp_in_nI hhd (by decide))⟩ ?_
    have ho9 : mu_onl H5 (mu_si H5 95 (nI hd).toNatClampNeg x4) 95 := (mu_onl.refl H5 95).si _ _
    have g9 : gi (mu_si H5 95 (nI hd).toNatClampNeg x4) := hp5.1.onl ho9 (Or.inl (hp5.1.a (p := 95) (x := (100, 512)) rfl).1.2.2)
    have k9 : gk (fun p => Nat.beq p 92) H5 (mu_si H5 95 (nI hd).toNatClampNeg x4) := gk.onla (p := 92) (j := 1) hp5.1 (by rw [hp5.1.r (p := 92) (j := 1) (q := 95) rfl]; exact ho9) rfl rfl
    obtain ⟨hp9, qt9⟩ := hp5.other g9 k9 (fun p hp => Or.inl (Nat.eq_of_beq_eq_true hp)) (fun _ => rfl) (Nat.le_refl _) (Nat.le_max_left _ _)
    have ht9 := ht5.trans qt9
    have z9 : gi_sz (mu_si H5 95 (nI hd).toNatClampNeg x4) 93 = gi_sz H5 93 := rfl
    refine mw_go mu_g178 (k := 1) (f1 := (60, [(6, .inl x4), (5, .inl (nI hd)), (0, .inr (.inr (some 92))), (1, .inl a1), (2, .inl a2), (3, .inl a3), (4, .inl a4)], [.inl (1 : Int32)], (mu_si H5 95 (nI hd).toNatClampNeg x4))) (C := []) rfl trivial ?_
    exact mw_of (fun _ => mu_ret rfl (Or.inr rfl) ⟨_, (mu_si H5 95 (nI hd).toNatClampNeg x4), rfl, Or.inr rfl, hp9, ht9, by omega⟩)
  · -- 9: not x1 < 0
    refine mw_go mu_g178 (k := 1) (f1 := (10, [(0, .inr (.inr (some 92))), (1, .inl a1), (2, .inl a2), (3, .inl a3), (4, .inl a4)], [.inl (0 : Int32)], H)) (C := []) rfl trivial ?_
    exact mw_of (fun _ => mu_ret rfl (Or.inl rfl) ⟨_, H, rfl, Or.inl rfl, h, (sq.refl m H), by omega⟩)
/-- PathProver$Sound.namesDiffer(I)Z -/
abbrev mu_m179 : ev_M := (5, (some .boolean), [], ev_b179)
theorem mu_g179 : mu_good mu_m179 := mu_goodk ev_k179
theorem so_differ (h : sd m H) (hmo : mo m H) (hi : i < gi_sz H (m + 3)) (hz : (gi_sz H 93 + (msp H m (i + 1) 1 - msp H m i 1) + (msp H m (i + 1) 2 - msp H m i 2) + (msp H m (i + 1) 3 - msp H m i 3)) * 5 ≤ 4194304) : mu_TI (mu_D (d + 5)) 179 [.inr (.inr (some 92)), .inl (nI i)] H (fun x H1 => (x = 0 ∨ x = 1) ∧ sd m H1 ∧ sq m H H1 ∧ gi_sz H1 93 ≤ gi_sz H 93 + (msp H m (i + 1) 1 - msp H m i 1) + (msp H m (i + 1) 2 - msp H m i 2) + (msp H m (i + 1) 3 - msp H m i 3)) := by
  have hm := h.2.1
  refine mu_meth (M := mu_m179) rfl rfl ?_
  refine mw_ht (mu_fn_of (show [0, 1].Nodup by decide)) ?_
  refine mw_go mu_g179 (k := 4) (f1 := (6, [(2, .inl (1 : Int32)), (0, .inr (.inr (some 92))), (1, .inl (nI i))], [.inr (.inr (mu_r H 92 2))], H)) (C := [mu_is H (some 92) 12]) rfl (show mu_is H (some 92) 12 from h.1.is rfl) ?_
  rw [h.2.2]
  refine mw_go mu_g179 (k := 1) (f1 := (9, [(2, .inl (1 : Int32)), (0, .inr (.inr (some 92))), (1, .inl (nI i))], [.inr (.inr (mu_r H m 1))], H)) (C := [mu_is H (some m) 6]) rfl (show mu_is H (some m) 6 from (show mu_is H (some m) 6 from gi_im h.1 h.2.1)) ?_
  rw [(show mu_r H m 1 = some (m + 3) from (gi_mr h.1 h.2.1 (j := 1) (by decide)).trans (congrArg some (by omega)))]
  refine mw_go mu_g179 (k := 2) (f1 := (11, [(2, .inl (1 : Int32)), (0, .inr (.inr (some 92))), (1, .inl (nI i))], [.inl (1 : Int32), .inl (nI i), .inr (.inr (some (m + 3)))], H)) (C := []) rfl trivial ?_
  refine mw_cIe (fun _ => rfl) (show mu_is H (some (m + 3)) 10 from (h.1.w (md_w1 h.2.1)).1) (gi_get_ok (d := (d + 3)) (H := H) h.1 (md_w1 h.2.1) (nI i) (j := 1) (by decide)) ?_
  refine mw_go mu_g179 (k := 1) (f1 := (15, [(3, .inl (rw_get H (m + 3) 11 (gi_sz H (m + 3)) (nI i) 1)), (2, .inl (1 : Int32)), (0, .inr (.inr (some 92))), (1, .inl (nI i))], [], H)) (C := []) rfl trivial ?_
  rw [hmo.start hm h.1 (sq.refl m H) hi (c := 1) (by decide) (by decide)]
  obtain ⟨hlea, hle2a, hle3a⟩ := hmo.le h.1 hm hi (c := 1) (by decide) (by decide)
  refine mw_sub (L' := [(2, .inl (1 : Int32)), (3, .inl (nI (msp H m i 1))), (0, .inr (.inr (some 92))), (1, .inl (nI i))]) (by simp) ?_
  refine mw_down (α := Int32 × Nat × mu_H) (fun zs => (15, [(2, .inl zs.1), (3, .inl (nI zs.2.1)), (0, .inr (.inr (some 92))), (1, .inl (nI i))], [], zs.2.2)) (fun zs => msp H m (i + 1) 1 - zs.2.1) (fun zs => sd m zs.2.2 ∧ sq m H zs.2.2 ∧ (zs.1 = 0 ∨ zs.1 = 1) ∧ (msp H m i 1 ≤ zs.2.1) ∧ (zs.2.1 ≤ msp H m (i + 1) 1) ∧ (gi_sz zs.2.2 93 + msp H m i 1 ≤ gi_sz H 93 + (0) + zs.2.1)) (fun zs hza iha => ?_) ((1 : Int32), msp H m i 1, H) ⟨h, (sq.refl m H), (show (1 : Int32) = 0 ∨ (1 : Int32) = 1 from Or.inr rfl), (show msp H m i 1 ≤ msp H m i 1 by omega), (show msp H m i 1 ≤ msp H m (i + 1) 1 by omega), (show gi_sz H 93 + msp H m i 1 ≤ gi_sz H 93 + (0) + msp H m i 1 by omega)⟩
  obtain ⟨f, k, Hsa⟩ := zs
  obtain ⟨hpa, hta, hf, hk1, hk2, hk3⟩ := hza
  have hpa : sd m Hsa := hpa
  have hta : sq m H Hsa := hta
  have hf : f = 0 ∨ f = 1 := hf
  have hk1 : msp H m i 1 ≤ k := hk1
  have hk2 : k ≤ msp H m (i + 1) 1 := hk2
  have hk3 : gi_sz Hsa 93 + msp H m i 1 ≤ gi_sz H 93 + (0) + k := hk3
  show mu_W _ _ (15, [(2, .inl f), (3, .inl (nI k)), (0, .inr (.inr (some 92))), (1, .inl (nI i))], [], Hsa) _
  refine mw_go mu_g179 (k := 3) (f1 := (20, [(2, .inl f), (3, .inl (nI k)), (0, .inr (.inr (some 92))), (1, .inl (nI i))], [.inr (.inr (mu_r Hsa 92 2)), .inl (nI k)], Hsa)) (C := [mu_is Hsa (some 92) 12]) rfl (show mu_is Hsa (some 92) 12 from hpa.1.is rfl) ?_
  rw [hpa.2.2]
  refine mw_go mu_g179 (k := 4) (f1 := (26, [(2, .inl f), (3, .inl (nI k)), (0, .inr (.inr (some 92))), (1, .inl (nI i))], [.inr (.inr (mu_r Hsa 92 2)), .inl (1 : Int32), .inl (nI i), .inr (.inr (some m)), .inl (nI k)], Hsa)) (C := [mu_is Hsa (some 92) 12]) rfl (show mu_is Hsa (some 92) 12 from hpa.1.is rfl) ?_
  rw [hpa.2.2]
  refine mw_go mu_g179 (k := 1) (f1 := (29, [(2, .inl f), (3, .inl (nI k)), (0, .inr (.inr (some 92))), (1, .inl (nI i))], [.inr (.inr (mu_r Hsa m 2)), .inl (1 : Int32), .inl (nI i), .inr (.inr (some m)), .inl (nI k)], Hsa)) (C := [mu_is Hsa (some m) 6]) rfl (show mu_is Hsa (some m) 6 from (show mu_is Hsa (some m) 6 from gi_im hpa.1 hpa.2.1)) ?_
  rw [(show mu_r Hsa m 2 = some (m + 5) from (gi_mr hpa.1 hpa.2.1 (j := 2) (by decide)).trans (congrArg some (by omega)))]
  refine mw_cI (fun _ => rfl) (show mu_is Hsa (some m) 6 from (show mu_is Hsa (some m) 6 from gi_im hpa.1 hpa.2.1)) (md_stop (d := (d + 2)) hpa.1 hpa.2.1 (md_w2 hpa.2.1) (c := 1) (by decide) (nI i)) (fun x2 H2 q2 => ?_)
  obtain ⟨rfl, hst2⟩ := q2
  obtain rfl : x2 = nI (msp H m (i + 1) 1) := hmo.stop hm h.1 hpa.1 hta hi (by decide) (by decide) (by show (m + 5) = m + 1 + 2 * 2; omega) hst2
  refine mw_if (P := (nI k) < (nI (msp H m (i + 1) 1))) (a := 35) (b := 63) (fun _ => rfl) trivial (fun h3 => ?_) (fun h3 => ?_)
  · -- 35: (nI k) < (nI (msp H m (i + 1) 1))
    have hkb : k < msp H m (i + 1) 1 := (nI_ltI (by omega) (by omega)).mp h3
    refine mw_go mu_g179 (k := 5) (f1 := (42, [(2, .inl f), (3, .inl (nI k)), (0, .inr (.inr (some 92))), (1, .inl (nI i))], [.inr (.inr (mu_r Hsa 92 2)), .inl (nI i), .inr (.inr (some 92)), .inl f], Hsa)) (C := [mu_is Hsa (some 92) 12]) rfl (show mu_is Hsa (some 92) 12 from hpa.1.is rfl) ?_
    rw [hpa.2.2]
    refine mw_go mu_g179 (k := 1) (f1 := (45, [(2, .inl f), (3, .inl (nI k)), (0, .inr (.inr (some 92))), (1, .inl (nI i))], [.inr (.inr (mu_r Hsa m 2)), .inl (nI i), .inr (.inr (some 92)), .inl f], Hsa)) (C := [mu_is Hsa (some m) 6]) rfl (show mu_is Hsa (some m) 6 from (show mu_is Hsa (some m) 6 from gi_im hpa.1 hpa.2.1)) ?_
    rw [(show mu_r Hsa m 2 = some (m + 5) from (gi_mr hpa.1 hpa.2.1 (j := 2) (by decide)).trans (congrArg some (by omega)))]
    refine mw_go mu_g179 (k := 2) (f1 := (47, [(2, .inl f), (3, .inl (nI k)), (0, .inr (.inr (some 92))), (1, .inl (nI i))], [.inl (0 : Int32), .inl (nI k), .inr (.inr (some (m + 5))), .inl (nI i), .inr (.inr (some 92)), .inl f], Hsa)) (C := []) rfl trivial ?_
    refine mw_cIe (fun _ => rfl) (show mu_is Hsa (some (m + 5)) 10 from (hpa.1.w (md_w2 hpa.2.1)).1) (gi_get_ok (d := (d + 3)) (H := Hsa) hpa.1 (md_w2 hpa.2.1) (nI k) (j := 0) (by decide)) ?_
    refine mw_go mu_g179 (k := 2) (f1 := (52, [(2, .inl f), (3, .inl (nI k)), (0, .inr (.inr (some 92))), (1, .inl (nI i))], [.inl (nI k), .inl (1 : Int32), .inl (rw_get Hsa (m + 5) 1 (gi_sz Hsa (m + 5)) (nI k) 0), .inl (nI i), .inr (.inr (some 92)), .inl f], Hsa)) (C := []) rfl trivial ?_
    refine mw_cI (fun _ => rfl) (show mu_is Hsa (some 92) 12 from hpa.1.is rfl) (so_add (d := d) hpa (by omega) (nI i) (rw_get Hsa (m + 5) 1 (gi_sz Hsa (m + 5)) (nI k) 0) (1 : Int32) (nI k)) (fun x5 H5 q5 => ?_)
    obtain ⟨hx5, hp5, qt5, qz5⟩ := q5
    have ht5 := hta.trans qt5
    refine mw_go mu_g179 (k := 4) (f1 := (15, [(3, .inl ((nI k) + 1)), (2, .inl (f &&& x5)), (0, .inr (.inr (some 92))), (1, .inl (nI i))], [], H5)) (C := []) rfl trivial ?_
    rw [nI_1]
    exact mw_sub (by simp) (iha ((f &&& x5), k + 1, H5) ⟨hp5, ht5, (show (f &&& x5) = 0 ∨ (f &&& x5) = 1 from b_and hf hx5), (show msp H m i 1 ≤ (k + 1) by omega), (show (k + 1) ≤ msp H m (i + 1) 1 by omega), (show gi_sz H5 93 + msp H m i 1 ≤ gi_sz H 93 + (0) + (k + 1) by omega)⟩ (by show msp H m (i + 1) 1 - (k + 1) < msp H m (i + 1) 1 - k; omega))
  · -- 63: not (nI k) < (nI (msp H m (i + 1) 1))
    have hkb : ¬ k < msp H m (i + 1) 1 := fun z => h3 (nI_lt z (by omega))
    refine mw_go mu_g179 (k := 2) (f1 := (67, [(2, .inl f), (3, .inl (nI k)), (0, .inr (.inr (some 92))), (1, .inl (nI i))], [.inr (.inr (mu_r Hsa 92 2))], Hsa)) (C := [mu_is Hsa (some 92) 12]) rfl (show mu_is Hsa (some 92) 12 from hpa.1.is rfl) ?_
    rw [hpa.2.2]
    refine mw_go mu_g179 (k := 1) (f1 := (70, [(2, .inl f), (3, .inl (nI k)), (0, .inr (.inr (some 92))), (1, .inl (nI i))], [.inr (.inr (mu_r Hsa m 1))], Hsa)) (C := [mu_is Hsa (some m) 6]) rfl (show mu_is Hsa (some m) 6 from (show mu_is Hsa (some m) 6 from gi_im hpa.1 hpa.2.1)) ?_
    rw [(show mu_r Hsa m 1 = some (m + 3) from (gi_mr hpa.1 hpa.2.1 (j := 1) (by decide)).trans (congrArg some (by omega)))]
    refine mw_go mu_g179 (k := 2) (f1 := (72, [(2, .inl f), (3, .inl (nI k)), (0, .inr (.inr (some 92))), (1, .inl (nI i))], [.inl (2 : Int32), .inl (nI i), .inr (.inr (some (m + 3)))], Hsa)) (C := []) rfl trivial ?_
    refine mw_cIe (fun _ => rfl) (show mu_is Hsa (some (m + 3)) 10 from (hpa.1.w (md_w1 hpa.2.1)).1) (gi_get_ok (d := (d + 3)) (H := Hsa) hpa.1 (md_w1 hpa.2.1) (nI i) (j := 2) (by decide)) ?_
    refine mw_go mu_g179 (k := 1) (f1 := (76, [(3, .inl (rw_get Hsa (m + 3) 11 (gi_sz Hsa (m + 3)) (nI i) 2)), (2, .inl f), (0, .inr (.inr (some 92))), (1, .inl (nI i))], [], Hsa)) (C := []) rfl trivial ?_
    rw [hmo.start hm hpa.1 hta hi (c := 2) (by decide) (by decide)]
    obtain ⟨hleb, hle2b, hle3b⟩ := hmo.le h.1 hm hi (c := 2) (by decide) (by decide)
    refine mw_sub (L' := [(2, .inl f), (3, .inl (nI (msp H m i 2))), (0, .inr (.inr (some 92))), (1, .inl (nI i))]) (by simp) ?_
    refine mw_down (α := Int32 × Nat × mu_H) (fun zs => (76, [(2, .inl zs.1), (3, .inl (nI zs.2.1)), (0, .inr (.inr (some 92))), (1, .inl (nI i))], [], zs.2.2)) (fun zs => msp H m (i + 1) 2 - zs.2.1) (fun zs => sd m zs.2.2 ∧ sq m H zs.2.2 ∧ (zs.1 = 0 ∨ zs.1 = 1) ∧ (msp H m i 2 ≤ zs.2.1) ∧ (zs.2.1 ≤ msp H m (i + 1) 2) ∧ (gi_sz zs.2.2 93 + msp H m i 2 ≤ gi_sz H 93 + (msp H m (i + 1) 1 - msp H m i 1) + zs.2.1)) (fun zs hzb ihb => ?_) (f, msp H m i 2, Hsa) ⟨hpa, hta, (show f = 0 ∨ f = 1 from hf), (show msp H m i 2 ≤ msp H m i 2 by omega), (show msp H m i 2 ≤ msp H m (i + 1) 2 by omega), (show gi_sz Hsa 93 + msp H m i 2 ≤ gi_sz H 93 + (msp H m (i + 1) 1 - msp H m i 1) + msp H m i 2 by omega)⟩
    obtain ⟨f, k, Hsb⟩ := zs
    obtain ⟨hpb, htb, hf, hk1, hk2, hk3⟩ := hzb
    have hpb : sd m Hsb := hpb
    have htb : sq m H Hsb := htb
    have hf : f = 0 ∨ f = 1 := hf
    have hk1 : msp H m i 2 ≤ k := hk1
    have hk2 : k ≤ msp H m (i + 1) 2 := hk2
    have hk3 : gi_sz Hsb 93 + msp H m i 2 ≤ gi_sz H 93 + (msp H m (i + 1) 1 - msp H m i 1) + k := hk3
    show mu_W _ _ (76, [(2, .inl f), (3, .inl (nI k)), (0, .inr (.inr (some 92))), (1, .inl (nI i))], [], Hsb) _
    refine mw_go mu_g179 (k := 3) (f1 := (81, [(2, .inl f), (3, .inl (nI k)), (0, .inr (.inr (some 92))), (1, .inl (nI i))], [.inr (.inr (mu_r Hsb 92 2)), .inl (nI k)], Hsb)) (C := [mu_is Hsb (some 92) 12]) rfl (show mu_is Hsb (some 92) 12 from hpb.1.is rfl) ?_
    rw [hpb.2.2]
    refine mw_go mu_g179 (k := 4) (f1 := (87, [(2, .inl f), (3, .inl (nI k)), (0, .inr (.inr (some 92))), (1, .inl (nI i))], [.inr (.inr (mu_r Hsb 92 2)), .inl (2 : Int32), .inl (nI i), .inr (.inr (some m)), .inl (nI k)], Hsb)) (C := [mu_is Hsb (some 92) 12]) rfl (show mu_is Hsb (some 92) 12 from hpb.1.is rfl) ?_
    rw [hpb.2.2]
    refine mw_go mu_g179 (k := 1) (f1 := (90, [(2, .inl f), (3, .inl (nI k)), (0, .inr (.inr (some 92))), (1, .inl (nI i))], [.inr (.inr (mu_r Hsb m 3)), .inl (2 : Int32), .inl (nI i), .inr (.inr (some m)), .inl (nI k)], Hsb)) (C := [mu_is Hsb (some m) 6]) rfl (show mu_is Hsb (some m) 6 from (show mu_is Hsb (some m) 6 from gi_im hpb.1 hpb.2.1)) ?_
    rw [(show mu_r Hsb m 3 = some (m + 7) from (gi_mr hpb.1 hpb.2.1 (j := 3) (by decide)).trans (congrArg some (by omega)))]
    refine mw_cI (fun _ => rfl) (show mu_is Hsb (some m) 6 from (show mu_is Hsb (some m) 6 from gi_im hpb.1 hpb.2.1)) (md_stop (d := (d + 2)) hpb.1 hpb.2.1 (md_w3 hpb.2.1) (c := 2) (by decide) (nI i)) (fun x7 H7 q7 => ?_)
    obtain ⟨rfl, hst7⟩ := q7
    obtain rfl : x7 = nI (msp H m (i + 1) 2) := hmo.stop hm h.1 hpb.1 htb hi (by decide) (by decide) (by show (m + 7) = m + 1 + 2 * 3; omega) hst7
    refine mw_if (P := (nI k) < (nI (msp H m (i + 1) 2))) (a := 96) (b := 156) (fun _ => rfl) trivial (fun h8 => ?_) (fun h8 => ?_)
    · -- 96: (nI k) < (nI (msp H m (i + 1) 2))
      have hkb : k < msp H m (i + 1) 2 := (nI_ltI (by omega) (by omega)).mp h8
      refine mw_go mu_g179 (k := 2) (f1 := (100, [(2, .inl f), (3, .inl (nI k)), (0, .inr (.inr (some 92))), (1, .inl (nI i))], [.inr (.inr (mu_r Hsb 92 2))], Hsb)) (C := [mu_is Hsb (some 92) 12]) rfl (show mu_is Hsb (some 92) 12 from hpb.1.is rfl) ?_
      rw [hpb.2.2]
      refine mw_go mu_g179 (k := 1) (f1 := (103, [(2, .inl f), (3, .inl (nI k)), (0, .inr (.inr (some 92))), (1, .inl (nI i))], [.inr (.inr (mu_r Hsb m 3))], Hsb)) (C := [mu_is Hsb (some m) 6]) rfl (show mu_is Hsb (some m) 6 from (show mu_is Hsb (some m) 6 from gi_im hpb.1 hpb.2.1)) ?_
      rw [(show mu_r Hsb m 3 = some (m + 7) from (gi_mr hpb.1 hpb.2.1 (j := 3) (by decide)).trans (congrArg some (by omega)))]
      refine mw_go mu_g179 (k := 2) (f1 := (105, [(2, .inl f), (3, .inl (nI k)), (0, .inr (.inr (some 92))), (1, .inl (nI i))], [.inl (1 : Int32), .inl (nI k), .inr (.inr (some (m + 7)))], Hsb)) (C := []) rfl trivial ?_
      refine mw_cIe (fun _ => rfl) (show mu_is Hsb (some (m + 7)) 10 from (hpb.1.w (md_w3 hpb.2.1)).1) (gi_get_ok (d := (d + 3)) (H := Hsb) hpb.1 (md_w3 hpb.2.1) (nI k) (j := 1) (by decide)) ?_
      refine mw_go mu_g179 (k := 1) (f1 := (109, [(2, .inl f), (3, .inl (nI k)), (0, .inr (.inr (some 92))), (1, .inl (nI i))], [.inl (3 : Int32), .inl (rw_get Hsb (m + 7) 6 (gi_sz Hsb (m + 7)) (nI k) 1)], Hsb)) (C := []) rfl trivial ?_
      refine mw_if (P := (rw_get Hsb (m + 7) 6 (gi_sz Hsb (m + 7)) (nI k) 1) = (3 : Int32)) (a := 116) (b := 112) (fun _ => rfl) trivial (fun h10 => ?_) (fun h10 => ?_)
      · -- 116: (rw_get Hsb (m + 7) 6 (gi_sz Hsb (m + 7)) (nI k) 1) = (3 : Int32)
        refine mw_go mu_g179 (k := 7) (f1 := (126, [(4, .inl (0 : Int32)), (2, .inl f), (3, .inl (nI k)), (0, .inr (.inr (some 92))), (1, .inl (nI i))], [.inr (.inr (mu_r Hsb 92 2)), .inl (nI i), .inr (.inr (some 92)), .inl f], Hsb)) (C := [mu_is Hsb (some 92) 12]) rfl (show mu_is Hsb (some 92) 12 from hpb.1.is rfl) ?_
        rw [hpb.2.2]
        refine mw_go mu_g179 (k := 1) (f1 := (129, [(4, .inl (0 : Int32)), (2, .inl f), (3, .inl (nI k)), (0, .inr (.inr (some 92))), (1, .inl (nI i))], [.inr (.inr (mu_r Hsb m 3)), .inl (nI i), .inr (.inr (some 92)), .inl f], Hsb)) (C := [mu_is Hsb (some m) 6]) rfl (show mu_is Hsb (some m) 6 from (show mu_is Hsb (some m) 6 from gi_im hpb.1 hpb.2.1)) ?_
        rw [(show mu_r Hsb m 3 = some (m + 7) from (gi_mr hpb.1 hpb.2.1 (j := 3) (by decide)).trans (congrArg some (by omega)))]
        refine mw_go mu_g179 (k := 2) (f1 := (131, [(4, .inl (0 : Int32)), (2, .inl f), (3, .inl (nI k)), (0, .inr (.inr (some 92))), (1, .inl (nI i))], [.inl (0 : Int32), .inl (nI k), .inr (.inr (some (m + 7))), .inl (nI i), .inr (.inr (some 92)), .inl f], Hsb)) (C := []) rfl trivial ?_
        refine mw_cIe (fun _ => rfl) (show mu_is Hsb (some (m + 7)) 10 from (hpb.1.w (md_w3 hpb.2.1)).1) (gi_get_ok (d := (d + 3)) (H := Hsb) hpb.1 (md_w3 hpb.2.1) (nI k) (j := 0) (by decide)) ?_
        refine mw_go mu_g179 (k := 1) (f1 := (136, [(4, .inl (0 : Int32)), (2, .inl f), (3, .inl (nI k)), (0, .inr (.inr (some 92))), (1, .inl (nI i))], [.inl (0 : Int32), .inl (rw_get Hsb (m + 7) 6 (gi_sz Hsb (m + 7)) (nI k) 0), .inl (nI i), .inr (.inr (some 92)), .inl f], Hsb)) (C := []) rfl trivial ?_
        refine mw_if (P := (0 : Int32) = 0) (a := 143) (b := 139) (fun _ => rfl) trivial (fun h12 => ?_) (fun h12 => absurd (by decide) h12)
        refine mw_go mu_g179 (k := 2) (f1 := (145, [(4, .inl (0 : Int32)), (2, .inl f), (3, .inl (nI k)), (0, .inr (.inr (some 92))), (1, .inl (nI i))], [.inl (nI k), .inl (4 : Int32), .inl (rw_get Hsb (m + 7) 6 (gi_sz Hsb (m + 7)) (nI k) 0), .inl (nI i), .inr (.inr (some 92)), .inl f], Hsb)) (C := []) rfl trivial ?_
        refine mw_cI (fun _ => rfl) (show mu_is Hsb (some 92) 12 from hpb.1.is rfl) (so_add (d := d) hpb (by omega) (nI i) (rw_get Hsb (m + 7) 6 (gi_sz Hsb (m + 7)) (nI k) 0) (4 : Int32) (nI k)) (fun x13 H13 q13 => ?_)
        obtain ⟨hx13, hp13, qt13, qz13⟩ := q13
        have ht13 := htb.trans qt13
        refine mw_go mu_g179 (k := 4) (f1 := (76, [(3, .inl ((nI k) + 1)), (2, .inl (f &&& x13)), (4, .inl (0 : Int32)), (0, .inr (.inr (some 92))), (1, .inl (nI i))], [], H13)) (C := []) rfl trivial ?_
        rw [nI_1]
        exact mw_sub (by simp) (ihb ((f &&& x13), k + 1, H13) ⟨hp13, ht13, (show (f &&& x13) = 0 ∨ (f &&& x13) = 1 from b_and hf hx13), (show msp H m i 2 ≤ (k + 1) by omega), (show (k + 1) ≤ msp H m (i + 1) 2 by omega), (show gi_sz H13 93 + msp H m i 2 ≤ gi_sz H 93 + (msp H m (i + 1) 1 - msp H m i 1) + (k + 1) by omega)⟩ (by show msp H m (i + 1) 2 - (k + 1) < msp H m (i + 1) 2 - k; omega))
      · -- 112: not (rw_get Hsb (m + 7) 6 (gi_sz Hsb (m + 7)) (nI k) 1) = (3 : Int32)
        refine mw_go mu_g179 (k := 8) (f1 := (126, [(4, .inl (1 : Int32)), (2, .inl f), (3, .inl (nI k)), (0, .inr (.inr (some 92))), (1, .inl (nI i))], [.inr (.inr (mu_r Hsb 92 2)), .inl (nI i), .inr (.inr (some 92)), .inl f], Hsb)) (C := [mu_is Hsb (some 92) 12]) rfl (show mu_is Hsb (some 92) 12 from hpb.1.is rfl) ?_
        rw [hpb.2.2]
        refine mw_go mu_g179 (k := 1) (f1 := (129, [(4, .inl (1 : Int32)), (2, .inl f), (3, .inl (nI k)), (0, .inr (.inr (some 92))), (1, .inl (nI i))], [.inr (.inr (mu_r Hsb m 3)), .inl (nI i), .inr (.inr (some 92)), .inl f], Hsb)) (C := [mu_is Hsb (some m) 6]) rfl (show mu_is Hsb (some m) 6 from (show mu_is Hsb (some m) 6 from gi_im hpb.1 hpb.2.1)) ?_
        rw [(show mu_r Hsb m 3 = some (m + 7) from (gi_mr hpb.1 hpb.2.1 (j := 3) (by decide)).trans (congrArg some (by omega)))]
        refine mw_go mu_g179 (k := 2) (f1 := (131, [(4, .inl (1 : Int32)), (2, .inl f), (3, .inl (nI k)), (0, .inr (.inr (some 92))), (1, .inl (nI i))], [.inl (0 : Int32), .inl (nI k), .inr (.inr (some (m + 7))), .inl (nI i), .inr (.inr (some 92)), .inl f], Hsb)) (C := []) rfl trivial ?_
        refine mw_cIe (fun _ => rfl) (show mu_is Hsb (some (m + 7)) 10 from (hpb.1.w (md_w3 hpb.2.1)).1) (gi_get_ok (d := (d + 3)) (H := Hsb) hpb.1 (md_w3 hpb.2.1) (nI k) (j := 0) (by decide)) ?_
        refine mw_go mu_g179 (k := 1) (f1 := (136, [(4, .inl (1 : Int32)), (2, .inl f), (3, .inl (nI k)), (0, .inr (.inr (some 92))), (1, .inl (nI i))], [.inl (1 : Int32), .inl (rw_get Hsb (m + 7) 6 (gi_sz Hsb (m + 7)) (nI k) 0), .inl (nI i), .inr (.inr (some 92)), .inl f], Hsb)) (C := []) rfl trivial ?_
        refine mw_if (P := (1 : Int32) = 0) (a := 143) (b := 139) (fun _ => rfl) trivial (fun h15 => absurd h15 (by decide)) (fun h15 => ?_)
        refine mw_go mu_g179 (k := 3) (f1 := (145, [(4, .inl (1 : Int32)), (2, .inl f), (3, .inl (nI k)), (0, .inr (.inr (some 92))), (1, .inl (nI i))], [.inl (nI k), .inl (3 : Int32), .inl (rw_get Hsb (m + 7) 6 (gi_sz Hsb (m + 7)) (nI k) 0), .inl (nI i), .inr (.inr (some 92)), .inl f], Hsb)) (C := []) rfl trivial ?_
        refine mw_cI (fun _ => rfl) (show mu_is Hsb (some 92) 12 from hpb.1.is rfl) (so_add (d := d) hpb (by omega) (nI i) (rw_get Hsb (m + 7) 6 (gi_sz Hsb (m + 7)) (nI k) 0) (3 : Int32) (nI k)) (fun x16 H16 q16 => ?_)
        obtain ⟨hx16, hp16, qt16, qz16⟩ := q16
        have ht16 := htb.trans qt16
        refine mw_go mu_g179 (k := 4) (f1 := (76, [(3, .inl ((nI k) + 1)), (2, .inl (f &&& x16)), (4, .inl (1 : Int32)), (0, .inr (.inr (some 92))), (1, .inl (nI i))], [], H16)) (C := []) rfl trivial ?_
        rw [nI_1]
        exact mw_sub (by simp) (ihb ((f &&& x16), k + 1, H16) ⟨hp16, ht16, (show (f &&& x16) = 0 ∨ (f &&& x16) = 1 from b_and hf hx16), (show msp H m i 2 ≤ (k + 1) by omega), (show (k + 1) ≤ msp H m (i + 1) 2 by omega), (show gi_sz H16 93 + msp H m i 2 ≤ gi_sz H 93 + (msp H m (i + 1) 1 - msp H m i 1) + (k + 1) by omega)⟩ (by show msp H m (i + 1) 2 - (k + 1) < msp H m (i + 1) 2 - k; omega))
    · -- 156: not (nI k) < (nI (msp H m (i + 1) 2))
      have hkb : ¬ k < msp H m (i + 1) 2 := fun z => h8 (nI_lt z (by omega))
      refine mw_go mu_g179 (k := 2) (f1 := (160, [(2, .inl f), (3, .inl (nI k)), (0, .inr (.inr (some 92))), (1, .inl (nI i))], [.inr (.inr (mu_r Hsb 92 2))], Hsb)) (C := [mu_is Hsb (some 92) 12]) rfl (show mu_is Hsb (some 92) 12 from hpb.1.is rfl) ?_
      rw [hpb.2.2]
      refine mw_go mu_g179 (k := 1) (f1 := (163, [(2, .inl f), (3, .inl (nI k)), (0, .inr (.inr (some 92))), (1, .inl (nI i))], [.inr (.inr (mu_r Hsb m 1))], Hsb)) (C := [mu_is Hsb (some m) 6]) rfl (show mu_is Hsb (some m) 6 from (show mu_is Hsb (some m) 6 from gi_im hpb.1 hpb.2.1)) ?_
      rw [(show mu_r Hsb m 1 = some (m + 3) from (gi_mr hpb.1 hpb.2.1 (j := 1) (by decide)).trans (congrArg some (by omega)))]
      refine mw_go mu_g179 (k := 2) (f1 := (165, [(2, .inl f), (3, .inl (nI k)), (0, .inr (.inr (some 92))), (1, .inl (nI i))], [.inl (3 : Int32), .inl (nI i), .inr (.inr (some (m + 3)))], Hsb)) (C := []) rfl trivial ?_
      refine mw_cIe (fun _ => rfl) (show mu_is Hsb (some (m + 3)) 10 from (hpb.1.w (md_w1 hpb.2.1)).1) (gi_get_ok (d := (d + 3)) (H := Hsb) hpb.1 (md_w1 hpb.2.1) (nI i) (j := 3) (by decide)) ?_
      refine mw_go mu_g179 (k := 1) (f1 := (169, [(3, .inl (rw_get Hsb (m + 3) 11 (gi_sz Hsb (m + 3)) (nI i) 3)), (2, .inl f), (0, .inr (.inr (some 92))), (1, .inl (nI i))], [], Hsb)) (C := []) rfl trivial ?_
      rw [hmo.start hm hpb.1 htb hi (c := 3) (by decide) (by decide)]
      obtain ⟨hlec, hle2c, hle3c⟩ := hmo.le h.1 hm hi (c := 3) (by decide) (by decide)
      refine mw_sub (L' := [(2, .inl f), (3, .inl (nI (msp H m i 3))), (0, .inr (.inr (some 92))), (1, .inl (nI i))]) (by simp) ?_
      refine mw_down (α := Int32 × Nat × mu_H) (fun zs => (169, [(2, .inl zs.1), (3, .inl (nI zs.2.1)), (0, .inr (.inr (some 92))), (1, .inl (nI i))], [], zs.2.2)) (fun zs => msp H m (i + 1) 3 - zs.2.1) (fun zs => sd m zs.2.2 ∧ sq m H zs.2.2 ∧ (zs.1 = 0 ∨ zs.1 = 1) ∧ (msp H m i 3 ≤ zs.2.1) ∧ (zs.2.1 ≤ msp H m (i + 1) 3) ∧ (gi_sz zs.2.2 93 + msp H m i 3 ≤ gi_sz H 93 + (msp H m (i + 1) 1 - msp H m i 1 + (msp H m (i + 1) 2 - msp H m i 2)) + zs.2.1)) (fun zs hzc ihc => ?_) (f, msp H m i 3, Hsb) ⟨hpb, htb, (show f = 0 ∨ f = 1 from hf), (show msp H m i 3 ≤ msp H m i 3 by omega), (show msp H m i 3 ≤ msp H m (i + 1) 3 by omega), (show gi_sz Hsb 93 + msp H m i 3 ≤ gi_sz H 93 + (msp H m (i + 1) 1 - msp H m i 1 + (msp H m (i + 1) 2 - msp H m i 2)) + msp H m i 3 by omega)⟩
      obtain ⟨f, k, Hsc⟩ := zs
      obtain ⟨hpc, htc, hf, hk1, hk2, hk3⟩ := hzc
      have hpc : sd m Hsc := hpc
      have htc : sq m H Hsc := htc
      have hf : f = 0 ∨ f = 1 := hf
      have hk1 : msp H m i 3 ≤ k := hk1
      have hk2 : k ≤ msp H m (i + 1) 3 := hk2
      have hk3 : gi_sz Hsc 93 + msp H m i 3 ≤ gi_sz H 93 + (msp H m (i + 1) 1 - msp H m i 1 + (msp H m (i + 1) 2 - msp H m i 2)) + k := hk3
      show mu_W _ _ (169, [(2, .inl f), (3, .inl (nI k)), (0, .inr (.inr (some 92))), (1, .inl (nI i))], [], Hsc) _
      refine mw_go mu_g179 (k := 3) (f1 := (174, [(2, .inl f), (3, .inl (nI k)), (0, .inr (.inr (some 92))), (1, .inl (nI i))], [.inr (.inr (mu_r Hsc 92 2)), .inl (nI k)], Hsc)) (C := [mu_is Hsc (some 92) 12]) rfl (show mu_is Hsc (some 92) 12 from hpc.1.is rfl) ?_
      rw [hpc.2.2]
      refine mw_go mu_g179 (k := 4) (f1 := (180, [(2, .inl f), (3, .inl (nI k)), (0, .inr (.inr (some 92))), (1, .inl (nI i))], [.inr (.inr (mu_r Hsc 92 2)), .inl (3 : Int32), .inl (nI i), .inr (.inr (some m)), .inl (nI k)], Hsc)) (C := [mu_is Hsc (some 92) 12]) rfl (show mu_is Hsc (some 92) 12 from hpc.1.is rfl) ?_
      rw [hpc.2.2]
      refine mw_go mu_g179 (k := 1) (f1 := (183, [(2, .inl f), (3, .inl (nI k)), (0, .inr (.inr (some 92))), (1, .inl (nI i))], [.inr (.inr (mu_r Hsc m 6)), .inl (3 : Int32), .inl (nI i), .inr (.inr (some m)), .inl (nI k)], Hsc)) (C := [mu_is Hsc (some m) 6]) rfl (show mu_is Hsc (some m) 6 from (show mu_is Hsc (some m) 6 from gi_im hpc.1 hpc.2.1)) ?_
      rw [(show mu_r Hsc m 6 = some (m + 13) from (gi_mr hpc.1 hpc.2.1 (j := 6) (by decide)).trans (congrArg some (by omega)))]
      refine mw_cI (fun _ => rfl) (show mu_is Hsc (some m) 6 from (show mu_is Hsc (some m) 6 from gi_im hpc.1 hpc.2.1)) (md_stop (d := (d + 2)) hpc.1 hpc.2.1 (md_w6 hpc.2.1) (c := 3) (by decide) (nI i)) (fun x18 H18 q18 => ?_)
      obtain ⟨rfl, hst18⟩ := q18
      obtain rfl : x18 = nI (msp H m (i + 1) 3) := hmo.stop hm h.1 hpc.1 htc hi (by decide) (by decide) (by show (m + 13) = m + 1 + 2 * 6; omega) hst18
      refine mw_if (P := (nI k) < (nI (msp H m (i + 1) 3))) (a := 189) (b := 217) (fun _ => rfl) trivial (fun h19 => ?_) (fun h19 => ?_)
      · -- 189: (nI k) < (nI (msp H m (i + 1) 3))
        have hkb : k < msp H m (i + 1) 3 := (nI_ltI (by omega) (by omega)).mp h19
        refine mw_go mu_g179 (k := 5) (f1 := (196, [(2, .inl f), (3, .inl (nI k)), (0, .inr (.inr (some 92))), (1, .inl (nI i))], [.inr (.inr (mu_r Hsc 92 2)), .inl (nI i), .inr (.inr (some 92)), .inl f], Hsc)) (C := [mu_is Hsc (some 92) 12]) rfl (show mu_is Hsc (some 92) 12 from hpc.1.is rfl) ?_
        rw [hpc.2.2]
        refine mw_go mu_g179 (k := 1) (f1 := (199, [(2, .inl f), (3, .inl (nI k)), (0, .inr (.inr (some 92))), (1, .inl (nI i))], [.inr (.inr (mu_r Hsc m 6)), .inl (nI i), .inr (.inr (some 92)), .inl f], Hsc)) (C := [mu_is Hsc (some m) 6]) rfl (show mu_is Hsc (some m) 6 from (show mu_is Hsc (some m) 6 from gi_im hpc.1 hpc.2.1)) ?_
        rw [(show mu_r Hsc m 6 = some (m + 13) from (gi_mr hpc.1 hpc.2.1 (j := 6) (by decide)).trans (congrArg some (by omega)))]
        refine mw_go mu_g179 (k := 2) (f1 := (201, [(2, .inl f), (3, .inl (nI k)), (0, .inr (.inr (some 92))), (1, .inl (nI i))], [.inl (0 : Int32), .inl (nI k), .inr (.inr (some (m + 13))), .inl (nI i), .inr (.inr (some 92)), .inl f], Hsc)) (C := []) rfl trivial ?_
        refine mw_cIe (fun _ => rfl) (show mu_is Hsc (some (m + 13)) 10 from (hpc.1.w (md_w6 hpc.2.1)).1) (gi_get_ok (d := (d + 3)) (H := Hsc) hpc.1 (md_w6 hpc.2.1) (nI k) (j := 0) (by decide)) ?_
        refine mw_go mu_g179 (k := 2) (f1 := (206, [(2, .inl f), (3, .inl (nI k)), (0, .inr (.inr (some 92))), (1, .inl (nI i))], [.inl (nI k), .inl (2 : Int32), .inl (rw_get Hsc (m + 13) 3 (gi_sz Hsc (m + 13)) (nI k) 0), .inl (nI i), .inr (.inr (some 92)), .inl f], Hsc)) (C := []) rfl trivial ?_
        refine mw_cI (fun _ => rfl) (show mu_is Hsc (some 92) 12 from hpc.1.is rfl) (so_add (d := d) hpc (by omega) (nI i) (rw_get Hsc (m + 13) 3 (gi_sz Hsc (m + 13)) (nI k) 0) (2 : Int32) (nI k)) (fun x21 H21 q21 => ?_)
        obtain ⟨hx21, hp21, qt21, qz21⟩ := q21
        have ht21 := htc.trans qt21
        refine mw_go mu_g179 (k := 4) (f1 := (169, [(3, .inl ((nI k) + 1)), (2, .inl (f &&& x21)), (0, .inr (.inr (some 92))), (1, .inl (nI i))], [], H21)) (C := []) rfl trivial ?_
        rw [nI_1]
        exact mw_sub (by simp) (ihc ((f &&& x21), k + 1, H21) ⟨hp21, ht21, (show (f &&& x21) = 0 ∨ (f &&& x21) = 1 from b_and hf hx21), (show msp H m i 3 ≤ (k + 1) by omega), (show (k + 1) ≤ msp H m (i + 1) 3 by omega), (show gi_sz H21 93 + msp H m i 3 ≤ gi_sz H 93 + (msp H m (i + 1) 1 - msp H m i 1 + (msp H m (i + 1) 2 - msp H m i 2)) + (k + 1) by omega)⟩ (by show msp H m (i + 1) 3 - (k + 1) < msp H m (i + 1) 3 - k; omega))
      · -- 217: not (nI k) < (nI (msp H m (i + 1) 3))
        have hkb : ¬ k < msp H m (i + 1) 3 := fun z => h19 (nI_lt z (by omega))
        refine mw_go mu_g179 (k := 1) (f1 := (218, [(2, .inl f), (3, .inl (nI k)), (0, .inr (.inr (some 92))), (1, .inl (nI i))], [.inl f], Hsc)) (C := []) rfl trivial ?_
        exact mw_of (fun _ => mu_ret rfl hf ⟨_, Hsc, rfl, hf, hpc, htc, by omega⟩)
end SoundAdds
