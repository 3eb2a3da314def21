/-! A NEW ARRAY OF LONGS IN A POOL -/
theorem plp_nd {n c : Nat} : ((List.range n).map (fun i => (c, i))).Nodup := List.Pairwise.map _ (fun _ _ h => fun e => h (Prod.mk.inj e).2) List.nodup_range
theorem plp_nodup : plp.Nodup := by
  unfold plp
  refine List.nodup_append.mpr ⟨plp_nd, List.nodup_append.mpr ⟨plp_nd, plp_nd, ?_⟩, ?_⟩
  · intro a ha b hb e
    obtain ⟨i, -, e1⟩ := List.mem_map.mp ha
    obtain ⟨j, -, e2⟩ := List.mem_map.mp hb
    rw [← e1, ← e2] at e
    exact absurd (Prod.mk.inj e).1 (by decide)
  · intro a ha b hb e
    obtain ⟨i, -, e1⟩ := List.mem_map.mp ha
    rcases List.mem_append.mp hb with hb | hb
    · obtain ⟨j, -, e2⟩ := List.mem_map.mp hb
      rw [← e1, ← e2] at e
      exact absurd (Prod.mk.inj e).1 (by decide)
    · obtain ⟨j, -, e2⟩ := List.mem_map.mp hb
      rw [← e1, ← e2] at e
      exact absurd (Prod.mk.inj e).1 (by decide)
theorem plp_sum {f : Nat × Nat → Nat} (hf : ∀ t, f t ≤ 2) : ∀ l : List (Nat × Nat), (l.map f).sum ≤ 2 * l.length
  | [] => Nat.zero_le _
  | a :: l => by
    rw [List.map_cons, List.sum_cons, List.length_cons]
    have := hf a
    have := plp_sum hf l
    omega
theorem plp_len : plp.length = 496 := by
  unfold plp
  rw [List.length_append, List.length_append, List.length_map, List.length_map, List.length_map, List.length_range, List.length_range, List.length_range]
theorem pln_le (H : mu_H) (t : Nat × Nat) : pln H t ≤ 2 := by
  unfold pln
  by_cases h : (mu_r H t.1 t.2).isSome = true
  · refine Nat.le_trans (Nat.le_of_eq (if_pos h)) ?_
    by_cases h2 : mu_n H (mu_p (mu_r H t.1 t.2)) ≤ 16
    · exact Nat.le_trans (Nat.le_of_eq (if_pos h2)) (by decide)
    · exact Nat.le_trans (Nat.le_of_eq (if_neg h2)) (by decide)
  · exact Nat.le_trans (Nat.le_of_eq (if_neg h)) (by decide)
theorem PN_le (H : mu_H) : PN H ≤ 992 := by
  have h := plp_sum (f := pln H) (pln_le H) plp
  rw [plp_len] at h
  exact h
def upC (U : Ud) (P J N : Nat) : Ud := (U.1, U.2.1, U.2.2.1, U.2.2.2.1, U.2.2.2.2.1, f2 U.2.2.2.2.2 P J (some (N, fun _ => 0)))
theorem um.newPx {m : Nat} {H H1 : mu_H} {C : Nat → Nat} {P J N : Nat} (hu : um m H) (hp : (P, J) ∈ plp) (hn : mu_r H P J = none ∨ ∃ q, mu_r H P J = some q ∧ mu_n H q ≤ 16 ∧ 16 < N) (he : H1 = mu_sr (mu_nw H 102 N N) P J (some (mu_z H))) : um m H1 ∧ ur m C H H1 ∧ ud m H1 = (if P = 114 then upC (ud m H) P J N else upR (upC (ud m H) P J N) P J (some (mu_z H))) := by
  obtain ⟨⟨hg, hpo, hroom⟩, hm⟩ := hu
  have hg0 := hg
  obtain ⟨⟨a1, a2⟩, b, c, e, f, g, i, ⟨x1, x2, x3, x6, x7⟩, x4, x5⟩ := hg
  have hP3 : P = 114 ∨ P = 161 ∨ P = 163 := plp_in hp
  obtain ⟨hPz, hPk⟩ : P < mu_z H ∧ mu_k H P = 104 := plp_kind hg0 hp
  have ek : ∀ p, p < mu_z H → mu_k H1 p = mu_k H p := fun p hp => by rw [he]; show mu_k (mu_nw H 102 N N) p = _; rw [mu_k_nw, if_neg (by omega)]
  have en : ∀ p, p < mu_z H → mu_n H1 p = mu_n H p := fun p hp => by rw [he]; show mu_n (mu_nw H 102 N N) p = _; rw [mu_n_nw, if_neg (by omega)]
  have ei : ∀ p, p < mu_z H → ∀ j, mu_i H1 p j = mu_i H p j := fun p hp j => by
    rw [he, mu_i_sr, mu_i_nw, if_neg (by omega)]
  have el : ∀ p, p < mu_z H → ∀ j, mu_l H1 p j = mu_l H p j := fun p hp j => by
    rw [he]; show mu_l (mu_nw H 102 N N) p j = _; rw [mu_l_nw, if_neg (by omega)]
  have el0 : ∀ j, mu_l H1 (mu_z H) j = 0 := fun j => by
    rw [he, mu_l_sr, mu_l_nw, if_pos rfl]
  have er : ∀ p j, p < mu_z H → ¬ (p = P ∧ j = J) → mu_r H1 p j = mu_r H p j := fun p j hp hn => by
    rw [he, mu_r_sr, if_neg hn]; show mu_r (mu_nw H 102 N N) p j = _; rw [mu_r_nw, if_neg (by omega)]
  have erP : mu_r H1 P J = some (mu_z H) := by rw [he, mu_r_sr, if_pos ⟨rfl, rfl⟩]
  have ekz : mu_k H1 (mu_z H) = 102 := by rw [he]; show mu_k (mu_nw H 102 N N) (mu_z H) = _; rw [mu_k_nw, if_pos rfl]
  have enz : mu_n H1 (mu_z H) = N := by rw [he]; show mu_n (mu_nw H 102 N N) (mu_z H) = _; rw [mu_n_nw, if_pos rfl]
  have ez : mu_z H1 = mu_z H + 1 := by rw [he]; rfl
  have ec : mu_c H1 = mu_c H + 1 := by rw [he]; rfl
  have es : mu_s H1 = mu_s H + N := by rw [he]; rfl
  have hsame : ∀ p, p < mu_z H → p ≠ P → mu_same H H1 p := fun p hp hn => mu_same.of (ek p hp) (en p hp) (ei p hp) (el p hp) (fun j => er p j hp (fun z => hn z.1))
  have his : ∀ o k, mu_is H o k → mu_is H1 o k := fun o k z => ⟨z.1, by have := z.2.1; omega, by rw [ek _ z.2.1]; exact z.2.2⟩
  have kne : ∀ p k, gi_k p = some k → p ≠ P := fun p k hk z => by
    have h1 := b p k hk
    have h3 := (gi_k_ok hk).2
    rw [z] at h1
    omega
  have ono : ∀ p j, gi_o p j = true → p ≠ P := fun p j hp => by
    obtain ⟨-, ⟨k, hk⟩, -⟩ := gi_o_ok hp
    exact kne p k hk
  have oz : ∀ p j, gi_o p j = true → mu_p (mu_r H p j) < mu_z H ∧ p < mu_z H := fun p j hp => by
    obtain ⟨-, ⟨k, hk⟩, -⟩ := gi_o_ok hp
    have := (gi_k_ok hk).1
    exact ⟨(f p j hp).2.1, by omega⟩
  have n00 : ¬ (0 = P ∧ 0 = J) := fun z => by omega
  have n81 : ¬ (81 = P ∧ 7 = J) := fun z => by omega
  have hlen : ∀ t ∈ gi_al, gi_len H1 t = gi_len H t := fun t ht => by
    have key : mu_p (mu_r H t.1 t.2) < mu_z H ∧ t.1 < mu_z H ∧ t.1 ≠ P := by
      rcases List.mem_cons.mp ht with e1 | ht
      · subst e1
        exact ⟨x1.2.1, by show 0 < mu_z H; omega, by show 0 ≠ P; omega⟩
      · rcases List.mem_cons.mp ht with e1 | ht
        · subst e1
          exact ⟨x2.2.1, by show 81 < mu_z H; omega, by show 81 ≠ P; omega⟩
        · have ho : gi_o t.1 t.2 = true := List.any_eq_true.mpr ⟨t, ht, by rw [Nat.beq_refl, Nat.beq_refl]; rfl⟩
          exact ⟨(oz _ _ ho).1, (oz _ _ ho).2, ono _ _ ho⟩
    unfold gi_len
    rw [er _ _ key.2.1 (fun z => key.2.2 z.1), en _ key.1]
  have hSC : gi_SC H1 = gi_SC H := gi_sum_eq gi_al hlen
  have hSL : gi_SL H1 = gi_SL H := gi_sum_eq gi_al (fun t ht => by rw [hlen t ht])
  have hrp : ∀ t ∈ plp, t ≠ (P, J) → mu_r H1 t.1 t.2 = mu_r H t.1 t.2 := fun t ht hne => er _ _ (plp_kind hg0 ht).1 (fun z => hne (Prod.ext z.1 z.2))
  have hPN : PN H + 1 ≤ PN H1 := by
    have z := gi_sum_one (f := pln H) (g := pln H1) plp plp_nodup hp (fun t ht hne => by
      unfold pln
      rw [hrp t ht hne]
      rcases hpo.1 t ht with y | ⟨y, -⟩
      · rw [y]; rfl
      · rw [en _ y.2.1])
    obtain ⟨nv, hnv⟩ : ∃ nv : Nat, nv = if N ≤ 16 then 1 else 2 := ⟨_, rfl⟩
    have hnv1 : 1 ≤ nv := by
      rw [hnv]
      by_cases c : N ≤ 16
      · exact Nat.le_of_eq (if_pos c).symm
      · exact Nat.le_trans (show 1 ≤ 2 by decide) (Nat.le_of_eq (if_neg c).symm)
    have z2 : pln H1 (P, J) = nv := by
      unfold pln
      rw [show mu_r H1 (P, J).1 (P, J).2 = some (mu_z H) from erP, hnv]
      show (if mu_n H1 (mu_z H) ≤ 16 then 1 else 2) = _
      rw [enz]
    have z1 : pln H (P, J) + 1 ≤ nv := by
      rcases hn with y | ⟨q, y1, y2, y3⟩
      · have w : pln H (P, J) = 0 := by
          unfold pln
          rw [show mu_r H (P, J).1 (P, J).2 = none from y]
          rfl
        omega
      · have w : pln H (P, J) = 1 := by
          unfold pln
          rw [show mu_r H (P, J).1 (P, J).2 = some q from y1]
          exact if_pos y2
        have w2 : nv = 2 := hnv.trans (if_neg (by omega))
        omega
    show (plp.map (pln H)).sum + 1 ≤ (plp.map (pln H1)).sum
    omega
  have hPS : PS H + N ≤ PS H1 := by
    have z := gi_sum_one (f := plz H) (g := plz H1) plp plp_nodup hp (fun t ht hne => by
      unfold plz
      rw [hrp t ht hne]
      rcases hpo.1 t ht with y | ⟨y, -⟩
      · rw [y]; rfl
      · rw [en _ y.2.1])
    have z2 : plz H1 (P, J) = if N ≤ 16 then N else N + 16 := by
      unfold plz
      rw [show mu_r H1 (P, J).1 (P, J).2 = some (mu_z H) from erP]
      show (if mu_n H1 (mu_z H) ≤ 16 then mu_n H1 (mu_z H) else mu_n H1 (mu_z H) + 16) = _
      rw [enz]
    have z1 : plz H (P, J) + N ≤ plz H1 (P, J) := by
      rw [z2]
      rcases hn with y | ⟨q, y1, y2, y3⟩
      · have w : plz H (P, J) = 0 := by
          unfold plz
          rw [show mu_r H (P, J).1 (P, J).2 = none from y]
          rfl
        by_cases c : N ≤ 16
        · rw [if_pos c]; omega
        · rw [if_neg c]; omega
      · have w : plz H (P, J) = mu_n H q := by
          unfold plz
          rw [show mu_r H (P, J).1 (P, J).2 = some q from y1]
          exact if_pos y2
        rw [if_neg (by omega)]; omega
    show (plp.map (plz H)).sum + N ≤ (plp.map (plz H1)).sum
    omega
  have hPNb := PN_le H
  have hgi : gi H1 := by
    refine ⟨⟨by omega, by omega⟩, fun p k hk => ?_, fun p j q hq => ?_, fun r W hr => ?_, fun p j hp => ?_, fun p j p' j' h1 h2 h3 => ?_, fun p x hx => ?_, ⟨?_, ?_, ?_, ?_, ?_⟩, fun t ht => ?_, fun p j hp hk hj => ?_⟩
    · have := (gi_k_ok hk).1
      rw [ek p (by omega)]
      exact b p k hk
    · obtain ⟨⟨k, hk⟩, -⟩ := gi_r_ok hq
      have := (gi_k_ok hk).1
      rw [er p j (by omega) (fun z => kne p k hk z.1)]
      exact c p j q hq
    · obtain ⟨⟨e1, e2, e3, e4, e5, e6⟩, e7⟩ := e r W hr
      obtain ⟨hr1, -, -, -, hro⟩ := gi_w_ok hr
      obtain ⟨o1, o2⟩ := oz r 1 hro
      have o3 : ¬ (r = P ∧ 1 = J) := fun z => ono r 1 hro z.1
      have hs : gi_sz H1 r = gi_sz H r := congrArg Int32.toNatClampNeg (ei r o2 2)
      have hc : gi_cap H1 r = gi_cap H r := by unfold gi_cap; rw [er r 1 o2 o3, en _ o1]
      rw [hs, hc]
      exact ⟨⟨his _ _ e1, by rw [er r 1 o2 o3]; exact his _ _ e2, by rw [ei r o2 0]; exact e3, by rw [ei r o2 2]; exact e4, by rw [er r 1 o2 o3, en _ o1]; exact e5, e6⟩, e7⟩
    · rw [er p j (oz p j hp).2 (fun z => ono p j hp z.1)]
      exact his _ _ (f p j hp)
    · rw [er p j (oz p j h1).2 (fun z => ono p j h1 z.1), er p' j' (oz p' j' h2).2 (fun z => ono p' j' h2 z.1)] at h3
      exact g p j p' j' h1 h2 h3
    · have := (gi_a_ok hx).1
      rw [ek p (by omega), en p (by omega)]
      exact i p x hx
    · rw [er 0 0 (by omega) n00]
      exact his _ _ x1
    · rw [er 81 7 (by omega) n81]
      exact his _ _ x2
    · rw [er 0 0 (by omega) n00, er 81 7 (by omega) n81]
      exact x3
    · rw [er 81 7 (by omega) n81]
      exact x6
    · rw [er 0 0 (by omega) n00]
      exact x7
    · rw [hlen t ht]
      exact x4 t ht
    · by_cases hpz : p < mu_z H
      · rw [ek p hpz] at hk
        rw [en p hpz] at hj
        rw [ei p hpz]
        exact x5 p j hpz hk hj
      · have hpe : p = mu_z H := by omega
        subst hpe
        omega
  have hold : ∀ t ∈ plp, ∀ q, mu_r H t.1 t.2 = some q → q < mu_z H := fun t ht q hq => by
    rcases hpo.1 t ht with y | ⟨y, -⟩
    · rw [y] at hq; cases hq
    · have := y.2.1
      rw [hq] at this
      exact this
  have hpk : pko H1 := by
    refine ⟨fun t ht => ?_, fun t ht u hu hne heq => ?_⟩
    · by_cases hx : t = (P, J)
      · rw [hx]
        show mu_r H1 P J = none ∨ (mu_is H1 (mu_r H1 P J) 102 ∧ 201 ≤ mu_p (mu_r H1 P J))
        rw [erP]
        exact Or.inr ⟨⟨rfl, by show mu_z H < mu_z H1; omega, ekz⟩, a1⟩
      · rw [hrp t ht hx]
        rcases hpo.1 t ht with y | ⟨y, y2⟩
        · exact Or.inl y
        · exact Or.inr ⟨his _ _ y, y2⟩
    · by_cases hx : t = (P, J)
      · by_cases hy : u = (P, J)
        · rw [hx, hy]
        · rw [hrp u hu hy, show mu_r H1 t.1 t.2 = some (mu_z H) from by rw [hx]; exact erP] at heq
          exact absurd (hold u hu _ heq.symm) (Nat.lt_irrefl _)
      · by_cases hy : u = (P, J)
        · rw [hrp t ht hx, show mu_r H1 u.1 u.2 = some (mu_z H) from by rw [hy]; exact erP] at heq
          exact absurd (hold t ht _ heq) (Nat.lt_irrefl _)
        · rw [hrp t ht hx] at hne heq
          rw [hrp u hu hy] at heq
          exact hpo.2 t ht u hu hne heq
  have hP167 : P < 167 := by omega
  have osame : ∀ p j, gi_o p j = true → mu_same H H1 (mu_p (mu_r H p j)) := fun p j hp => hsame _ (oz p j hp).1 (fun z => by
    have := (f p j hp).2.2
    rw [z] at this
    omega)
  have hkk : hk (uS m) H H1 := by
    refine ⟨⟨by omega, by omega, by omega⟩, fun p hp => ⟨ek p hp, en p hp⟩, fun p k hk _ => hsame p (by have := (gi_k_ok hk).1; omega) (kne p k hk), fun p j hp _ => osame p j hp, fun p hp hk => hsame p hp (fun z => by rw [z] at hk; omega), fun p hp hnc => hsame p hp (fun z => hnc (Or.inl (by omega))), fun p hpc => ?_, by omega, by omega, by omega⟩
    rcases hpc with z | ⟨q, j, z1, z2⟩
    · exact Or.inl (Or.inl z)
    · by_cases hx : q = P ∧ j = J
      · rw [hx.1, hx.2, erP] at z2
        exact Or.inr (Nat.le_of_eq (Option.some.inj z2))
      · by_cases hq : q = mu_z H
        · rw [he, mu_r_sr, if_neg hx] at z2
          have : mu_r (mu_nw H 102 N N) q j = none := by rw [mu_r_nw, if_pos hq]
          rw [this] at z2
          cases z2
        · rw [he, mu_r_sr, if_neg hx] at z2
          have : mu_r (mu_nw H 102 N N) q j = mu_r H q j := by rw [mu_r_nw, if_neg hq]
          rw [this] at z2
          exact Or.inl (Or.inr ⟨q, j, z1, z2⟩)
  have rz : ∀ j, j < 28 → gi_o (ra m j) 1 = true := fun j hj => (gi_w_ok ((ra_ok hm).1 j hj)).2.2.2.2
  have hur : ur m C H H1 := ⟨hkk, fun j hj => by
    have ho := rz j hj
    rw [show gi_cap H1 (ra m j) = gi_cap H (ra m j) from by unfold gi_cap; rw [er _ 1 (oz _ 1 ho).2 (fun z => ono _ 1 ho z.1), en _ (oz _ 1 ho).1]]
    exact Nat.le_max_left _ _⟩
  have hak : ak m H1 = ak m H := gT_ext (fun j hj => by
    show _ = gT (ra m) wa 28 H j
    rw [gT_at hj, gT_at hj]
    exact tb_same (hsame _ (oz _ 1 (rz j hj)).2 (ono _ 1 (rz j hj))) (osame _ 1 (rz j hj))) (fun j hj => gT_out hj)
  have uz : ∀ p, uo p = true → p < mu_z H ∧ p ≠ P := fun p hp => by
    rcases uo_in hp with e | e | e | e | e | e <;> omega
  have e1 : dI H1 = dI H := by
    funext p i
    unfold dI
    by_cases hx : uo p = true
    · rw [if_pos hx, if_pos hx, ei p (uz p hx).1]
    · rw [if_neg hx, if_neg hx]
  have e2 : dA H1 = dA H := by
    funext p i
    unfold dA
    by_cases hx : uo p = true ∧ gi_o p i = true
    · rw [if_pos hx, if_pos hx]
      unfold gi_len
      show (mu_n H1 (mu_p (mu_r H1 p i)), fun q => mu_i H1 (mu_p (mu_r H1 p i)) q) = (mu_n H (mu_p (mu_r H p i)), fun q => mu_i H (mu_p (mu_r H p i)) q)
      rw [er p i (uz p hx.1).1 (fun z => (uz p hx.1).2 z.1)]
      exact Prod.ext (en _ (oz p i hx.2).1) (funext fun q => ei _ (oz p i hx.2).1 q)
    · rw [if_neg hx, if_neg hx]
  have e3 : dR H1 = (if P = 114 then dR H else f2 (dR H) P J (some (mu_z H))) := by
    have hoth : ∀ p i, ¬ (p = P ∧ i = J) → dR H1 p i = dR H p i := fun p i hne => by
      unfold dR
      by_cases hx : uo p = true
      · rw [if_pos hx, if_pos hx]
        exact er p i (uz p hx).1 (fun z => (uz p hx).2 z.1)
      · rw [if_neg hx, if_neg hx]
        by_cases hx2 : (p, i) ∈ plp ∧ ¬ p = 114
        · rw [if_pos hx2, if_pos hx2]
          exact hrp (p, i) hx2.1 (fun z => hne (Prod.mk.inj z))
        · rw [if_neg hx2, if_neg hx2]
    have hnu : ¬ uo P = true := fun y => (uz P y).2 rfl
    by_cases h114 : P = 114
    · rw [if_pos h114]
      funext p i
      by_cases hpi : p = P ∧ i = J
      · rw [hpi.1, hpi.2]
        unfold dR
        rw [if_neg hnu, if_neg hnu, if_neg (fun y => y.2 h114), if_neg (fun y => y.2 h114)]
      · exact hoth p i hpi
    · rw [if_neg h114]
      funext p i
      unfold f2
      by_cases hpi : p = P ∧ i = J
      · rw [if_pos hpi, hpi.1, hpi.2]
        unfold dR
        rw [if_neg hnu, if_pos ⟨hp, h114⟩]
        exact erP
      · rw [if_neg hpi]
        exact hoth p i hpi
  have e4 : dL H1 = dL H := by
    funext p i
    unfold dL
    by_cases hx : fl p = true
    · rw [if_pos hx, if_pos hx]
      obtain ⟨n, hnn⟩ := fl_ok hx
      exact el p (hg0.a hnn).1.2.1 i
    · rw [if_neg hx, if_neg hx]
  have e5 : dP H1 = f2 (dP H) P J (some (N, fun _ => 0)) := by
    funext p i
    unfold f2
    by_cases hpi : p = P ∧ i = J
    · rw [if_pos hpi, hpi.1, hpi.2]
      unfold dP
      rw [if_pos hp, erP]
      show some (mu_n H1 (mu_z H), fun k => mu_l H1 (mu_z H) k) = _
      exact congrArg some (Prod.ext enz (funext fun q => el0 q))
    · rw [if_neg hpi]
      unfold dP
      by_cases hx : (p, i) ∈ plp
      · rw [if_pos hx, if_pos hx]
        rw [show mu_r H1 p i = mu_r H p i from hrp (p, i) hx (fun z => hpi (Prod.mk.inj z))]
        cases hrr : mu_r H p i with
        | none => rfl
        | some y =>
          have hy := hold (p, i) hx y hrr
          show some (mu_n H1 y, fun k => mu_l H1 y k) = some (mu_n H y, fun k => mu_l H y k)
          exact congrArg some (Prod.ext (en y hy) (funext fun q => el y hy q))
      · rw [if_neg hx, if_neg hx]
  refine ⟨⟨⟨hgi, hpk, by omega⟩, hm⟩, hur, ?_⟩
  have eu : ud m H1 = (ak m H, dI H, dA H, (if P = 114 then dR H else f2 (dR H) P J (some (mu_z H))), dL H, f2 (dP H) P J (some (N, fun _ => 0))) := by
    show (ak m H1, dI H1, dA H1, dR H1, dL H1, dP H1) = _
    rw [hak, e1, e2, e3, e4, e5]
  rw [eu]
  by_cases h114 : P = 114
  · rw [if_pos h114, if_pos h114]
    rfl
  · rw [if_neg h114, if_neg h114]
    rfl
theorem um.newP {m : Nat} {H H1 : mu_H} {C : Nat → Nat} {P J N : Nat} (hu : um m H) (h114 : P = 114) (hp : (P, J) ∈ plp) (hn : mu_r H P J = none) (he : H1 = mu_sr (mu_nw H 102 N N) P J (some (mu_z H))) : um m H1 ∧ ur m C H H1 ∧ ud m H1 = upC (ud m H) P J N := by
  have y := um.newPx (C := C) hu hp (Or.inl hn) he
  rw [if_pos h114] at y
  exact y
/-- a set of the Prover is made, or a small one is made anew -/
theorem um.newS {m : Nat} {H H1 : mu_H} {C : Nat → Nat} {P J N : Nat} (hu : um m H) (h114 : ¬ P = 114) (hp : (P, J) ∈ plp) (hn : mu_r H P J = none ∨ ∃ q, mu_r H P J = some q ∧ mu_n H q ≤ 16 ∧ 16 < N) (he : H1 = mu_sr (mu_nw H 102 N N) P J (some (mu_z H))) : um m H1 ∧ ur m C H H1 ∧ ud m H1 = upR (upC (ud m H) P J N) P J (some (mu_z H)) := by
  have y := um.newPx (C := C) hu hp hn he
  rw [if_neg h114] at y
  exact y
