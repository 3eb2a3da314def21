/-! new Node and add in the parser, as one step each -/
section NuC
variable {H0 H : mu_H} {F : Nat → Prop} {f q a c s k n dep d : Nat} {x : Int32} {qs : List Nat} {cs : List Tre} {T : Nat → Int32} {t : Tok}
theorem mu_same.sy {H H1 : mu_H} {p : Nat} (h : mu_same H H1 p) : mu_same H1 H p := ⟨h.1.symm, h.2.1.symm, fun j tc => (h.2.2 j tc).symm⟩
theorem nd_newS (hs : pst T n t dep F H) (hz : mu_z H + 2 ≤ 1000000) (h0 : mu_z H0 ≤ mu_z H) (hf : stf H F s (txt k)) (hk : k < 79) : mu_TV (mu_D (d + 4)) 519 [.inr (.inr (some (mu_z H))), .inr (.inr (some s))] (mu_nw H 18 0 8) (fun H1 => nu H0 H1 F f (mu_z H) (mu_z H + 1) 2 s k 0 [] [] ∧ pst T n t dep F H1 ∧ kep (fun p => mu_z H ≤ p ∧ p < 1000000) 2 10 H H1) := by
  have k0 : kep (fun _ => False) (0 + 1) (0 + 8) H (mu_nw H 18 0 8) := kep.rf.nw (by omega)
  have hb := hf.kp k0 (fun _ z => z.elim)
  refine (nd_init (d := d) (mu_is_new H 18 0 8) (by omega) (by rw [mu_i_nw, if_pos rfl]) hb.1 (Nat.lt_trans (txt_len k hk) (by decide)) (by show mu_z H + 1 + 1 ≤ 1000000; omega)).imp (fun H1 q => ?_)
  obtain ⟨q1, q2, q3, q4, q5⟩ := q
  exact nu.new hs hz h0 hf hk q1 q2 q3 q4
theorem nd_newL {j : Nat} (hs : pst T n t dep F H) (hz : mu_z H + 2 ≤ 1000000) (h0 : mu_z H0 ≤ mu_z H) (hj : j < 79) : mu_TV (mu_D (d + 4)) 519 [.inr (.inr (some (mu_z H))), .inr (.inr (some (1000000 + j)))] (mu_nw H 18 0 8) (fun H1 => nu H0 H1 F f (mu_z H) (mu_z H + 1) 2 (1000000 + j) j 0 [] [] ∧ pst T n t dep F H1 ∧ kep (fun p => mu_z H ≤ p ∧ p < 1000000) 2 10 H H1) :=
  mu_MT.ot fun hot => nd_newS (d := d) hs hz h0 (stf.lit (mu_ot_same hot (fun p hp => (mu_same_nw (by omega)).sy)) hj) hj
theorem nu.cap (h : nu H0 H F f q a c s k x qs cs) : qs.length ≤ c ∧ 2 ≤ c ∧ c ≤ 2 * qs.length + 2 ∧ qs.length = cs.length := ⟨h.1.2.2.2.2.2.2.1.2.1, h.1.2.2.2.2.2.2.1.2.2.1, h.1.2.2.2.2.2.2.1.2.2.2.1, h.2.1.1⟩
theorem nd_addU {y : Nat} {cy : Tre} (h : nu H0 H F f q a c s k x qs cs) (hs : pst T n t dep F H) (h2 : 200 < mu_z H0) (hy : nd H F f y cy) (hl : c ≤ 2 ^ 20) (hz : mu_z H + 1 ≤ 1000000) : mu_TA (mu_D (d + 1)) 520 [.inr (.inr (some q)), .inr (.inr (some y))] H (fun r H1 => r = some q ∧ ∃ a1 c1, nu H0 H1 F f q a1 c1 s k x (qs ++ [y]) (cs ++ [cy]) ∧ pst T n t dep F H1 ∧ c ≤ c1 ∧ kep (fun p => mu_z H0 ≤ p ∧ p < 1000000) (c1 - c) (2 * (c1 - c)) H H1) := by
  refine mu_MT.imp (nd_add (d := d) h.1 hy.is.1 hl hz) (fun r q => ?_)
  obtain ⟨r', H1, e, q1, a1, c1, q2, q3, q4, q5, q6, q7⟩ := q
  have g := nu.add h hs h2 hy q2 q4 q5 q6 q7
  exact ⟨r', H1, e, q1, a1, c1, g.1, g.2.1, q3, g.2.2⟩
theorem pbi_some {r : PR} {k : Tre → Tok → PR} {res : Nat ⊕ (Tre × Tok)} (h : pbi r k = some res) : ∃ r', r = some r' := by
  cases r with
  | none => cases h
  | some r => exact ⟨r, rfl⟩
theorem pbi_inl {k : Tre → Tok → PR} {res : Nat ⊕ (Tre × Tok)} {e : Nat} (h : pbi (some (.inl e)) k = some res) : res = .inl e := (Option.some.inj h).symm
theorem pok_eq {c : Tre} {t : Tok} {res : Nat ⊕ (Tre × Tok)} (h : pok c t = some res) : res = .inr (c, t) := (Option.some.inj h).symm
theorem per_eq {t : Tok} {res : Nat ⊕ (Tre × Tok)} (h : per t = some res) : res = .inl t.2.1 := (Option.some.inj h).symm
theorem ite_no {α : Type} {p : Prop} [Decidable p] {a b c : α} (h : (if p then a else b) = c) (hp : ¬ p) : b = c := by rw [if_neg hp] at h; exact h
theorem ite_ye {α : Type} {p : Prop} [Decidable p] {a b c : α} (h : (if p then a else b) = c) (hp : p) : a = c := by rw [if_pos hp] at h; exact h
end NuC
