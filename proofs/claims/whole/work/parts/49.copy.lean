/-! Copies of arrays; methods of the tables are good -/
def mu_cpi (H : mu_H) (q0 sp q1 dp n : Nat) : mu_H := (H.1, H.2.1, (fun p i => if p = q1 ∧ dp ≤ i ∧ i < dp + n then H.2.2.1 q0 (sp + (i - dp)) else H.2.2.1 p i), H.2.2.2.1, H.2.2.2.2.1, H.2.2.2.2.2.1, H.2.2.2.2.2.2.1, H.2.2.2.2.2.2.2)
def mu_cpl (H : mu_H) (q0 sp q1 dp n : Nat) : mu_H := (H.1, H.2.1, H.2.2.1, (fun p i => if p = q1 ∧ dp ≤ i ∧ i < dp + n then H.2.2.2.1 q0 (sp + (i - dp)) else H.2.2.2.1 p i), H.2.2.2.2.1, H.2.2.2.2.2.1, H.2.2.2.2.2.2.1, H.2.2.2.2.2.2.2)
theorem mu_i_cpi (H : mu_H) (q0 sp q1 dp n p i : Nat) : mu_i (mu_cpi H q0 sp q1 dp n) p i = if p = q1 ∧ dp ≤ i ∧ i < dp + n then mu_i H q0 (sp + (i - dp)) else mu_i H p i := rfl
theorem mu_l_cpl (H : mu_H) (q0 sp q1 dp n p i : Nat) : mu_l (mu_cpl H q0 sp q1 dp n) p i = if p = q1 ∧ dp ≤ i ∧ i < dp + n then mu_l H q0 (sp + (i - dp)) else mu_l H p i := rfl
theorem mu_goodk {own nm : String} {cc : ByteArray} {M : ev_M} (h : M.2.2.2.all (ev_ok own nm cc) = true) : mu_good M := ⟨own, nm, fun i hi => by
  have z := List.all_eq_true.mp h i hi
  simp only [ev_ok, Bool.and_eq_true] at z
  exact z.2⟩
theorem mu_same_cpi {H : mu_H} {q0 sp q1 dp n p : Nat} (h : p ≠ q1) : mu_same H (mu_cpi H q0 sp q1 dp n) p := by
  refine ⟨rfl, rfl, fun j tc => ?_⟩
  unfold mu_f
  split
  · rfl
  · rfl
  · rw [mu_i_cpi, if_neg (fun z => h z.1)]
theorem mu_same_cpl {H : mu_H} {q0 sp q1 dp n p : Nat} (h : p ≠ q1) : mu_same H (mu_cpl H q0 sp q1 dp n) p := by
  refine ⟨rfl, rfl, fun j tc => ?_⟩
  unfold mu_f
  split
  · rfl
  · rw [mu_l_cpl, if_neg (fun z => h z.1)]
  · rfl
theorem mu_known {z : Int32} (h : ¬ z < 0) : ev_known (ev_int (.inl (.int z))) = some z.toNatClampNeg := by
  show (bif decide (z < 0) then none else some z.toNatClampNeg) = _
  rw [decide_eq_false h]
  rfl
theorem mu_bytesOk {d0 : ev_V} {wr0 : List (Nat × ev_V)} {sp : Nat} {g : Nat → Int32} : ∀ k : Nat, (∀ i, i < k → ev_at d0 wr0 (sp + i) = .inl (.int (g (sp + i)))) → (∀ i, i < k → fits .byte (.int (g (sp + i))) = true) → ev_bytesOk d0 wr0 sp k = true
  | 0, _, _ => rfl
  | k + 1, h1, h2 => by
    show (ev_isb (ev_at d0 wr0 (sp + k)) && ev_bytesOk d0 wr0 sp k) = true
    rw [h1 k (by omega), mu_bytesOk k (fun i hi => h1 i (by omega)) (fun i hi => h2 i (by omega)), Bool.and_true]
    exact h2 k (by omega)
section MuCopy
variable {run : Nat → List ev_V → List ev_C → Option ev_R} {M : ev_M}
/-- the evaluator's copy, from its world -/
theorem mu_copy0 {pc idx a t : Nat} {L : mu_L} {S : List mu_V} {n dp sp : Int32} {o0 o1 : Option Nat} {H H1 : mu_H} {Φ : mu_R → Prop} (hf : ev_find M.2.2.2 pc = some (.invokestatic idx, [a])) (h0 : mu_is H o0 (100 + t)) (h1 : mu_is H o1 (100 + t)) (ht : t < 3) (hsp : ¬ sp < 0) (hdp : ¬ dp < 0) (hn : ¬ n < 0) (hl0 : sp.toNatClampNeg + n.toNatClampNeg ≤ mu_n H (mu_p o0)) (hl1 : dp.toNatClampNeg + n.toNatClampNeg ≤ mu_n H (mu_p o1)) (hby : t = 1 → ∀ i, i < n.toNatClampNeg → fits .byte (.int (mu_i H (mu_p o0) (sp.toNatClampNeg + i))) = true) (hS : mu_wds S ≤ 8)
    (hz : mu_z H1 = mu_z H) (hc : mu_c H1 = mu_c H) (hs : mu_s H1 = mu_s H) (hk : mu_k H1 (mu_p o1) = 100 + t) (hn1 : mu_n H1 (mu_p o1) = mu_n H (mu_p o1)) (ho : ∀ p, p ≠ mu_p o1 → mu_same H H1 p)
    (hv : ∀ i, i < mu_n H (mu_p o1) → mu_f H1 (mu_p o1) i (mu_et t) = if dp.toNatClampNeg ≤ i ∧ i < dp.toNatClampNeg + n.toNatClampNeg then mu_f H (mu_p o0) (sp.toNatClampNeg + (i - dp.toNatClampNeg)) (mu_et t) else mu_f H (mu_p o1) i (mu_et t))
    (h : mu_HT run M (pc + 3, L, S, H1) Φ) : mu_HT run M (pc, L, .inl n :: .inl dp :: .inr (.inr o1) :: .inl sp :: .inr (.inr o0) :: S, H) Φ := by
  refine mu_ev1 (fun w c m hr => ?_) h
  obtain ⟨d0, wr0, a1, a2, a3⟩ := mu_atA hr h0
  obtain ⟨d1, wr1, b1, b2, b3⟩ := mu_atA hr h1
  refine ⟨w.set (mu_p o1) (.inr (t, mu_n H (mu_p o1), d1, ev_copy d0 wr0 sp.toNatClampNeg dp.toNatClampNeg n.toNatClampNeg wr1)), mu_rep_set hr hz h1.2.1 ⟨hk, hn1, fun i hi => ?_⟩ ho, by rw [hc]; exact Nat.le_refl _, by rw [hs]; exact Nat.le_refl _, fun go => ?_⟩
  · rw [ev_at_copy, hv i hi]
    by_cases e : dp.toNatClampNeg ≤ i ∧ i < dp.toNatClampNeg + n.toNatClampNeg
    · rw [if_pos e, if_pos e]
      exact a2 _ (show sp.toNatClampNeg + (i - dp.toNatClampNeg) < mu_n H (mu_p o0) by omega)
    · rw [if_neg e, if_neg e]
      exact b2 i hi
  · unfold ev_body
    have hf' : ev_find M.2.2.2 (mu_e (pc, L, .inl n :: .inl dp :: .inr (.inr o1) :: .inl sp :: .inr (.inr o0) :: S, H) w c m).1 = some (.invokestatic idx, [a]) := hf
    rw [hf']
    show (match ev_acopy (pc, mu_m L, .inl (.int n) :: .inl (.int dp) :: mu_v (.inr (.inr o1)) :: .inl (.int sp) :: mu_v (.inr (.inr o0)) :: S.map mu_v, w, c, m) with | some f1 => go f1 | none => none) = go (pc + 3, mu_m L, S.map mu_v, w.set (mu_p o1) (.inr (t, mu_n H (mu_p o1), d1, ev_copy d0 wr0 sp.toNatClampNeg dp.toNatClampNeg n.toNatClampNeg wr1)), c + (mu_c H1 - mu_c H), m + (mu_s H1 - mu_s H))
    rw [a3, b3]
    unfold ev_acopy
    dsimp only
    rw [a1, b1, mu_known hsp, mu_known hdp, mu_known hn]
    have q1 : Nat.beq t t = true := Nat.beq_refl t
    have q2 : Nat.blt t 3 = true := Nat.ble_eq_true_of_le ht
    have q3 := Nat.ble_eq_true_of_le hl0
    have q4 := Nat.ble_eq_true_of_le hl1
    have q5 : (!Nat.beq t 1 || ev_bytesOk d0 wr0 sp.toNatClampNeg n.toNatClampNeg) = true := by
      by_cases e : t = 1
      · subst e
        rw [mu_bytesOk (g := fun i => mu_i H (mu_p o0) i) n.toNatClampNeg (fun i hi => a2 _ (show sp.toNatClampNeg + i < mu_n H (mu_p o0) by omega)) (hby rfl)]
        exact Bool.or_true _
      · have : Nat.beq t 1 = false := by
          cases hb : Nat.beq t 1 with
          | false => rfl
          | true => exact absurd (Nat.eq_of_beq_eq_true hb) e
        rw [this]
        rfl
    have q6 : Nat.ble (ev_wds (S.map mu_v)) 8 = true := by rw [mu_wds_m]; exact Nat.ble_eq_true_of_le hS
    dsimp only
    rw [q1, q2, q3, q4, q5, q6, hc, hs, Nat.sub_self, Nat.sub_self]
    rfl
/-- ints or bytes -/
theorem mu_copyI {pc idx a t : Nat} {L : mu_L} {S : List mu_V} {n dp sp : Int32} {o0 o1 : Option Nat} {H : mu_H} {Φ : mu_R → Prop} (hf : ev_find M.2.2.2 pc = some (.invokestatic idx, [a])) (h0 : mu_is H o0 (100 + t)) (h1 : mu_is H o1 (100 + t)) (ht : t < 2) (hsp : ¬ sp < 0) (hdp : ¬ dp < 0) (hn : ¬ n < 0) (hl0 : sp.toNatClampNeg + n.toNatClampNeg ≤ mu_n H (mu_p o0)) (hl1 : dp.toNatClampNeg + n.toNatClampNeg ≤ mu_n H (mu_p o1)) (hby : t = 1 → ∀ i, i < n.toNatClampNeg → fits .byte (.int (mu_i H (mu_p o0) (sp.toNatClampNeg + i))) = true) (hS : mu_wds S ≤ 8)
    (h : mu_HT run M (pc + 3, L, S, mu_cpi H (mu_p o0) sp.toNatClampNeg (mu_p o1) dp.toNatClampNeg n.toNatClampNeg) Φ) : mu_HT run M (pc, L, .inl n :: .inl dp :: .inr (.inr o1) :: .inl sp :: .inr (.inr o0) :: S, H) Φ := by
  have het : mu_et t = 0 := by
    have hcase : t = 0 ∨ t = 1 := by omega
    rcases hcase with rfl | rfl <;> rfl
  refine mu_copy0 (H1 := mu_cpi H (mu_p o0) sp.toNatClampNeg (mu_p o1) dp.toNatClampNeg n.toNatClampNeg) hf h0 h1 (by omega) hsp hdp hn hl0 hl1 hby hS rfl rfl rfl h1.2.2 rfl (fun p hp => mu_same_cpi hp) (fun i hi => ?_) h
  rw [het]
  show Sum.inl (mu_i _ _ _) = _
  rw [mu_i_cpi]
  by_cases e : dp.toNatClampNeg ≤ i ∧ i < dp.toNatClampNeg + n.toNatClampNeg
  · rw [if_pos e, if_pos ⟨rfl, e⟩]; rfl
  · rw [if_neg e, if_neg (fun z => e z.2)]; rfl
/-- longs -/
theorem mu_copyL {pc idx a : Nat} {L : mu_L} {S : List mu_V} {n dp sp : Int32} {o0 o1 : Option Nat} {H : mu_H} {Φ : mu_R → Prop} (hf : ev_find M.2.2.2 pc = some (.invokestatic idx, [a])) (h0 : mu_is H o0 102) (h1 : mu_is H o1 102) (hsp : ¬ sp < 0) (hdp : ¬ dp < 0) (hn : ¬ n < 0) (hl0 : sp.toNatClampNeg + n.toNatClampNeg ≤ mu_n H (mu_p o0)) (hl1 : dp.toNatClampNeg + n.toNatClampNeg ≤ mu_n H (mu_p o1)) (hS : mu_wds S ≤ 8)
    (h : mu_HT run M (pc + 3, L, S, mu_cpl H (mu_p o0) sp.toNatClampNeg (mu_p o1) dp.toNatClampNeg n.toNatClampNeg) Φ) : mu_HT run M (pc, L, .inl n :: .inl dp :: .inr (.inr o1) :: .inl sp :: .inr (.inr o0) :: S, H) Φ := by
  refine mu_copy0 (t := 2) (H1 := mu_cpl H (mu_p o0) sp.toNatClampNeg (mu_p o1) dp.toNatClampNeg n.toNatClampNeg) hf h0 h1 (by omega) hsp hdp hn hl0 hl1 (fun e => by cases e) hS rfl rfl rfl h1.2.2 rfl (fun p hp => mu_same_cpl hp) (fun i hi => ?_) h
  show Sum.inr (Sum.inl (mu_l _ _ _)) = _
  rw [mu_l_cpl]
  by_cases e : dp.toNatClampNeg ≤ i ∧ i < dp.toNatClampNeg + n.toNatClampNeg
  · rw [if_pos e, if_pos ⟨rfl, e⟩]; rfl
  · rw [if_neg e, if_neg (fun z => e z.2)]; rfl
end MuCopy
