/-! SOUND: rows of MODULES rise; members are added -/
section ModuleRows
variable {H H1 : mu_H} {m i c : Nat} {S : Nat → Bool}
/-- the table that a column of the MODULES speaks of -/
def tabc (c : Nat) : Nat := [0, 2, 3, 6, 7, 8, 9].getD c 0
/-- where the rows of the i-th MODULE begin; behind the last: the table's end -/
def msp (H : mu_H) (m i c : Nat) : Nat := if i < gi_sz H (m + 3) then (cel H (m + 3) (i * 11 + c)).toNatClampNeg else gi_sz H (m + 1 + 2 * tabc c)
def mo (m : Nat) (H : mu_H) : Prop := ∀ i, i < gi_sz H (m + 3) → ∀ c, 1 ≤ c → c ≤ 6 → cel H (m + 3) (i * 11 + c) = nI (msp H m i c) ∧ msp H m i c ≤ msp H m (i + 1) c ∧ msp H m (i + 1) c ≤ gi_sz H (m + 1 + 2 * tabc c)
/-- a LIST's first value and how many there are; how many up to a VAR -/
def va (H : mu_H) (m k : Nat) : Nat := (cel H (m + 7) (k * 6 + 2)).toNatClampNeg
def vb (H : mu_H) (m k : Nat) : Nat := (cel H (m + 7) (k * 6 + 3)).toNatClampNeg
def lsum (H : mu_H) (m : Nat) : Nat → Nat
  | 0 => 0
  | k + 1 => lsum H m k + (if cel H (m + 7) (k * 6 + 1) = 2 then vb H m k else 0)
def vl (m : Nat) (H : mu_H) : Prop := (∀ k, k < gi_sz H (m + 7) → cel H (m + 7) (k * 6 + 1) = 2 → cel H (m + 7) (k * 6 + 2) = nI (va H m k) ∧ cel H (m + 7) (k * 6 + 3) = nI (vb H m k) ∧ va H m k + vb H m k ≤ gi_sz H (m + 9)) ∧ lsum H m (gi_sz H (m + 7)) ≤ gi_sz H (m + 9)
theorem sq.m3 (h : sq m H H1) : gi_sz H1 (m + 3) = gi_sz H (m + 3) := (h.2.2.1 1 (by decide)).1
theorem sq.c3 (h : sq m H H1) (hc : c ≤ 6) : cel H1 (m + 3) (i * 11 + c) = cel H (m + 3) (i * 11 + c) := h.2.2.2.1 1 (by decide) i c (by show c < 11; omega) (decide_eq_true hc)
theorem sq.c7 (h : sq m H H1) (hc : c ≤ 3) : cel H1 (m + 7) (i * 6 + c) = cel H (m + 7) (i * 6 + c) := h.2.2.2.1 3 (by decide) i c (by show c < 6; omega) (decide_eq_true hc)
theorem mo.start (h : mo m H) (hm : m = 2 ∨ m = 41) (hg : gi H1) (hq : sq m H H1) (hi : i < gi_sz H (m + 3)) (h1 : 1 ≤ c) (h6 : c ≤ 6) : rw_get H1 (m + 3) 11 (gi_sz H1 (m + 3)) (nI i) c = nI (msp H m i c) := by
  have hn := rw_n (hg.w (md_w1 hm))
  rw [rw_get_at hn (by rw [hq.m3]; exact hi) (by omega), hq.c3 h6]
  exact (h i hi c h1 h6).1
theorem mo.le (h : mo m H) (hg : gi H) (hm : m = 2 ∨ m = 41) (hi : i < gi_sz H (m + 3)) (h1 : 1 ≤ c) (h6 : c ≤ 6) : msp H m i c ≤ msp H m (i + 1) c ∧ msp H m (i + 1) c ≤ gi_sz H (m + 1 + 2 * tabc c) ∧ gi_sz H (m + 1 + 2 * tabc c) ≤ 67108864 := by
  refine ⟨(h i hi c h1 h6).2.1, (h i hi c h1 h6).2.2, ?_⟩
  have ht : tabc c < 19 := by
    have : c = 1 ∨ c = 2 ∨ c = 3 ∨ c = 4 ∨ c = 5 ∨ c = 6 := by omega
    rcases this with e | e | e | e | e | e <;> subst e <;> decide
  exact rw_n (hg.w (ps_wm hm ht))
theorem mo.stop (h : mo m H) (hm : m = 2 ∨ m = 41) (hg0 : gi H) (hg : gi H1) (hq : sq m H H1) (hi : i < gi_sz H (m + 3)) (h1 : 1 ≤ c) (h6 : c ≤ 6) {x : Int32} {r : Nat} (hr : r = m + 1 + 2 * tabc c) (hst : (x = rw_get H1 (m + 3) 11 (gi_sz H1 (m + 3)) (nI i + 1) c ∧ nI i + 1 < mu_i H1 (m + 3) 2) ∨ (x = mu_i H1 r 2 ∧ ¬ nI i + 1 < mu_i H1 (m + 3) 2)) : x = nI (msp H m (i + 1) c) := by
  have hn := rw_n (hg.w (md_w1 hm))
  have hn0 := rw_n (hg0.w (md_w1 hm))
  have e3 : mu_i H1 (m + 3) 2 = nI (gi_sz H (m + 3)) := by rw [← hq.m3]; exact (hg.w (md_w1 hm)).2.2.2.1
  have ht : tabc c < 19 := by
    have : c = 1 ∨ c = 2 ∨ c = 3 ∨ c = 4 ∨ c = 5 ∨ c = 6 := by omega
    rcases this with e | e | e | e | e | e <;> subst e <;> decide
  rw [e3, nI_1] at hst
  rcases hst with ⟨z1, z2⟩ | ⟨z1, z2⟩
  · have hlt : i + 1 < gi_sz H (m + 3) := (nI_ltI (by omega) (by omega)).mp z2
    rw [z1]
    exact h.start hm hg hq hlt h1 h6
  · have hnl : ¬ i + 1 < gi_sz H (m + 3) := fun z => z2 (nI_lt z (by omega))
    rw [z1, hr, show mu_i H1 (m + 1 + 2 * tabc c) 2 = nI (gi_sz H1 (m + 1 + 2 * tabc c)) from (hg.w (ps_wm hm ht)).2.2.2.1, (hq.2.2.1 _ ht).1]
    unfold msp
    rw [if_neg hnl]
theorem vl.cell (hm : m = 2 ∨ m = 41) (hg : gi H1) (hq : sq m H H1) (hi : i < gi_sz H (m + 7)) (hc : c ≤ 3) : rw_get H1 (m + 7) 6 (gi_sz H1 (m + 7)) (nI i) c = cel H (m + 7) (i * 6 + c) := by
  have hn := rw_n (hg.w (md_w3 hm))
  have e : gi_sz H1 (m + 7) = gi_sz H (m + 7) := (hq.2.2.1 3 (by decide)).1
  rw [rw_get_at hn (by rw [e]; exact hi) (by omega), hq.c7 hc]
theorem b_and {x y : Int32} (h : x = 0 ∨ x = 1) (h' : y = 0 ∨ y = 1) : x &&& y = 0 ∨ x &&& y = 1 := by
  rcases h with e | e <;> rcases h' with e' | e' <;> subst e <;> subst e' <;> decide
/-- an array of ints of an owner in S -/
theorem gk.onla {p j : Nat} (h : gi H) (ho : mu_onl H H1 (mu_p (mu_r H p j))) (hS : S p = true) (hp : gi_o p j = true) : gk S H H1 := by
  obtain ⟨a, b, c, e, f, g, i, j', l⟩ := lk.onl (S := S) h ho hS (Or.inl hp)
  refine ⟨a, b, c, e, fun q hq hk => ho.same (fun e1 => ?_), g, i, j'⟩
  have := (h.o hp).2.2
  rw [e1] at hk
  omega
theorem sd.other {g : Nat → Bool} (h : sd m H) (hg1 : gi H1) (hk : gk g H H1) (hS : ∀ p, g p = true → p = 92 ∨ p = 93) (h92 : ∀ j, mu_r H1 92 j = mu_r H 92 j) (hz : gi_sz H 93 ≤ gi_sz H1 93) (hc : gi_cap H1 93 ≤ max (gi_cap H 93) (10 * gi_sz H1 93 + 5)) : sd m H1 ∧ sq m H H1 := by
  obtain ⟨hg, hm, h2⟩ := h
  have hf : ∀ j, j < 19 → g (m + 1 + 2 * j) = false := fun j hj => by
    cases hx : g (m + 1 + 2 * j) with
    | false => rfl
    | true => have := hS _ hx; omega
  refine ⟨⟨hg1, hm, by rw [h92]; exact h2⟩, hk.mono (fun p hp => decide_eq_true (by have := hS p hp; omega)), h92, fun j hj => ?_, fun j hj i c _ _ => ?_, hz, hc⟩
  · obtain ⟨-, -, -, hrk, hro⟩ := gi_w_ok (ps_wm hm hj)
    have hs := hk.obj hrk (hf j hj)
    refine ⟨by unfold gi_sz; rw [hs.i], ?_⟩
    unfold gi_cap
    rw [hs.r, (hk.2.1 _ (hg.o hro).2.1).2]
  · obtain ⟨-, -, -, hrk, hro⟩ := gi_w_ok (ps_wm hm hj)
    unfold cel
    rw [(hk.obj hrk (hf j hj)).r]
    exact (hk.2.2.2.1 _ 1 hro (hf j hj)).i _
end ModuleRows
section SoundAdds
variable {H : mu_H} {d m i : Nat}
/-- PathProver$Sound.add(IIII)Z -/
abbrev mu_m178 : ev_M := (7, (some .boolean), [], ev_b178)
theorem mu_g178 : mu_good mu_m178 := mu_goodk ev_k178
/-- PathProver$Sound.namesDiffer(I)Z -/
abbrev mu_m179 : ev_M := (5, (some .boolean), [], ev_b179)
theorem mu_g179 : mu_good mu_m179 := mu_goodk ev_k179
end SoundAdds
