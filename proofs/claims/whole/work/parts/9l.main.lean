/-! THE PARSER ONCE MORE: a MODULE's head, the symbols, the loop of parse -/
section Modules2
variable {s : Ts} {j c : Nat} {t : Tb} {row x nm : Int32}
theorem tx_fu : tx j (fu s j t) row c x = fu s j (tset (wd j) t row c x) := by
  unfold tx
  rw [fu_at, fu_fu]
theorem mod_c (h : CT s) (he : CE s) (hb : ∀ j, j < 11 → (s j).1 < 2147483648) : CT (tx 1 (tx 1 (tx 1 (tp 1 s nm (nI (s 2).1) (nI (s 3).1) (nI (s 6).1)) (nI (s 1).1) 4 (nI (s 7).1)) (nI (s 1).1) 5 (nI (s 8).1)) (nI (s 1).1) 6 (nI (s 9).1)) ∧ (tx 1 (tx 1 (tx 1 (tp 1 s nm (nI (s 2).1) (nI (s 3).1) (nI (s 6).1)) (nI (s 1).1) 4 (nI (s 7).1)) (nI (s 1).1) 5 (nI (s 8).1)) (nI (s 1).1) 6 (nI (s 9).1) 1).1 = (s 1).1 + 1 := by
  show CT (tx 1 (tx 1 (tx 1 (fu s 1 (tput (wd 1) (s 1) nm (nI (s 2).1) (nI (s 3).1) (nI (s 6).1))) (nI (s 1).1) 4 (nI (s 7).1)) (nI (s 1).1) 5 (nI (s 8).1)) (nI (s 1).1) 6 (nI (s 9).1)) ∧ (tx 1 (tx 1 (tx 1 (fu s 1 (tput (wd 1) (s 1) nm (nI (s 2).1) (nI (s 3).1) (nI (s 6).1))) (nI (s 1).1) 4 (nI (s 7).1)) (nI (s 1).1) 5 (nI (s 8).1)) (nI (s 1).1) 6 (nI (s 9).1) 1).1 = (s 1).1 + 1
  rw [tx_fu, tx_fu, tx_fu, fu_at]
  have hb1 := hb 1 (by decide)
  have hn : (tset (wd 1) (tset (wd 1) (tset (wd 1) (tput (wd 1) (s 1) nm (nI (s 2).1) (nI (s 3).1) (nI (s 6).1)) (nI (s 1).1) 4 (nI (s 7).1)) (nI (s 1).1) 5 (nI (s 8).1)) (nI (s 1).1) 6 (nI (s 9).1)).1 = (s 1).1 + 1 := by
    rw [tset_n, tset_n, tset_n]
    rfl
  refine ⟨h.mod hn (fun k c hk => ?_) (fun c h1 h6 => ?_) hb (fun z => he.elim (fun y => by omega) (fun y => y)) ?_, hn⟩
  · have hne : ∀ c' : Nat, k = (nI (s 1).1).toNatClampNeg → c ≠ c' := fun c' z => by
      rw [nI_clamp hb1] at z
      omega
    rw [tset_ne (hne 6), tset_ne (hne 5), tset_ne (hne 4)]
    exact if_neg (by omega)
  · have hc : c = 1 ∨ c = 2 ∨ c = 3 ∨ c = 4 ∨ c = 5 ∨ c = 6 := by omega
    rcases hc with z | z | z | z | z | z <;> subst z
    · rw [tset_ne (fun _ => by decide), tset_ne (fun _ => by decide), tset_ne (fun _ => by decide)]
      exact if_pos rfl
    · rw [tset_ne (fun _ => by decide), tset_ne (fun _ => by decide), tset_ne (fun _ => by decide)]
      exact if_pos rfl
    · rw [tset_ne (fun _ => by decide), tset_ne (fun _ => by decide), tset_ne (fun _ => by decide)]
      exact if_pos rfl
    · rw [tset_ne (fun _ => by decide), tset_ne (fun _ => by decide), tset_hit (show (s 1).1 < (s 1).1 + 1 by omega) (by decide) hb1]
      rfl
    · rw [tset_ne (fun _ => by decide), tset_hit (by rw [tset_n]; show (s 1).1 < (s 1).1 + 1; omega) (by decide) hb1]
      rfl
    · rw [tset_hit (by rw [tset_n, tset_n]; show (s 1).1 < (s 1).1 + 1; omega) (by decide) hb1]
      rfl
  · rw [tset_ne (fun _ => by decide), tset_ne (fun _ => by decide), tset_ne (fun _ => by decide)]
    exact if_pos rfl
theorem CT_empty (h : ∀ j, j < 11 → (s j).1 = 0) : CT s := by
  have h1 := h 1 (by decide)
  refine ⟨fun k hk => by omega, fun p hp => ?_, ⟨fun k hk => by omega, fun k hk => by omega, fun k hk => by omega, fun z => by omega, fun k hk => by omega⟩, fun k hk => by omega, fun r hr => ?_, ?_⟩
  · have := h 0 (by decide)
    omega
  · have := h 9 (by decide)
    omega
  · unfold Cl
    rw [h 3 (by decide)]
    exact Nat.zero_le _
theorem tx_n {i : Nat} : (tx j s row c x i).1 = (s i).1 := by
  by_cases h : i = j
  · subst h; rw [tx_at, tset_n]
  · rw [tx_ne h]
theorem CE.put (h : CE s) : CE (tx j s row c x) := h.elim (fun z => Or.inl (by rw [tx_n]; exact z)) (fun z => Or.inr (fun i hi => by rw [tx_n]; exact z i hi))
end Modules2
section PCs
variable {m : Nat} {H : mu_H}
theorem PC.ct (h : PC m H) : CT (ab m H) ∧ CE (ab m H) := by
  rcases h with h | ⟨f, k, ch, -, -, hy⟩
  · exact ⟨h.1, h.2.2.2.elim (fun z => z.2) (fun z => Or.inl z.2)⟩
  · exact ⟨hy.1, Or.inl hy.2.1.1.1⟩
theorem PC.m0 (h : PC m H) (e : mu_i H 80 6 = 0) : CT (ab m H) ∧ (ab m H 11).1 = 0 ∧ CE (ab m H) := by
  rcases h with h | ⟨f, k, ch, g1, hk, hy⟩
  · exact ⟨h.1, h.2.2.1, (PC.ct (Or.inl h)).2⟩
  · rw [e] at hk
    exact absurd hk (by intro z; rcases z with z | z | z | z <;> exact absurd z.1 (by decide))
theorem PC.ml (h : PC m H) {x : Int32} (e : mu_i H 80 6 = x) (hx : x = 1 ∨ x = 2 ∨ x = 3 ∨ x = 4) : CT (ab m H) ∧ (ab m H 11).1 = 0 ∧ 1 ≤ (ab m H 1).1 := by
  rcases h with h | ⟨f, k, ch, -, hk, -⟩
  · refine ⟨h.1, h.2.2.1, ?_⟩
    rcases h.2.2.2 with z | z
    · have z := z.1
      rw [e] at z
      rw [z] at hx
      exact absurd hx (by decide)
    · exact z.2
  · rw [e] at hk
    exfalso
    rcases hx with y | y | y | y <;> subst y <;> rcases hk with z | z | z | z <;> exact absurd z.1 (by decide)
theorem PC.op (h : PC m H) {x : Int32} (e : mu_i H 80 6 = x) (hx : ¬ (x = 0 ∨ ((x = 1 ∨ x = 2 ∨ x = 3 ∨ x = 4 ∨ x = 10)))) : ∃ f k ch, mu_i H 80 9 = nI f ∧ mdk x k ch ∧ cy (ab m H) f k ch := by
  rcases h with h | h
  · exfalso
    rw [e] at h
    rcases h.2.2.2 with z | z
    · exact hx (Or.inl z.1)
    · exact hx (Or.inr z.1)
  · rw [e] at h
    exact h
theorem PC.m7 (h : PC m H) (e : mu_i H 80 6 = 7) : ∃ f, mu_i H 80 9 = nI f ∧ cy (ab m H) f [] true := by
  obtain ⟨f, k, ch, h1, h2, h3⟩ := h.op e (by decide)
  rcases h2 with z | z | z | z
  · exact absurd z.1 (by decide)
  · obtain ⟨-, rfl, rfl⟩ := z; exact ⟨f, h1, h3⟩
  · exact absurd z.1 (by decide)
  · exact absurd z.1 (by decide)
theorem PC.m8 (h : PC m H) (e : mu_i H 80 6 = 8) : ∃ f, mu_i H 80 9 = nI f ∧ cy (ab m H) f [false] false := by
  obtain ⟨f, k, ch, h1, h2, h3⟩ := h.op e (by decide)
  rcases h2 with z | z | z | z
  · exact absurd z.1 (by decide)
  · exact absurd z.1 (by decide)
  · obtain ⟨-, rfl, rfl⟩ := z; exact ⟨f, h1, h3⟩
  · exact absurd z.1 (by decide)
theorem PC.m9 (h : PC m H) (e : mu_i H 80 6 = 9) : ∃ f, mu_i H 80 9 = nI f ∧ cy (ab m H) f [true] true := by
  obtain ⟨f, k, ch, h1, h2, h3⟩ := h.op e (by decide)
  rcases h2 with z | z | z | z
  · exact absurd z.1 (by decide)
  · exact absurd z.1 (by decide)
  · exact absurd z.1 (by decide)
  · obtain ⟨-, rfl, rfl⟩ := z; exact ⟨f, h1, h3⟩
theorem PC.m5 (h : PC m H) {x : Int32} (e : mu_i H 80 6 = x) (hx : x = 5 ∨ x = 6) : ∃ f, mu_i H 80 9 = nI f ∧ cy (ab m H) f [] false := by
  obtain ⟨f, k, ch, h1, h2, h3⟩ := h.op e (by rcases hx with z | z <;> subst z <;> decide)
  rcases h2 with z | z | z | z
  · obtain ⟨-, rfl, rfl⟩ := z; exact ⟨f, h1, h3⟩
  · rcases hx with y | y <;> subst y <;> exact absurd z.1 (by decide)
  · rcases hx with y | y <;> subst y <;> exact absurd z.1 (by decide)
  · rcases hx with y | y <;> subst y <;> exact absurd z.1 (by decide)
theorem PC.no (h : PC m H) (hn : ¬ mu_i H 80 6 = 10) (hx : (mu_i H 80 6).toInt < 0 ∨ 9 < (mu_i H 80 6).toInt) : False := by
  have key : ∀ x : Int32, (x = 0 ∨ x = 1 ∨ x = 2 ∨ x = 3 ∨ x = 4 ∨ x = 5 ∨ x = 6 ∨ x = 7 ∨ x = 8 ∨ x = 9) → ¬ (x.toInt < 0 ∨ 9 < x.toInt) := by
    intro x hx
    rcases hx with z | z | z | z | z | z | z | z | z | z <;> subst z <;> decide
  refine key (mu_i H 80 6) ?_ hx
  rcases h with h | ⟨f, k, ch, -, hk, -⟩
  · rcases h.2.2.2 with z | z
    · exact Or.inl z.1
    · rcases z.1 with z | z | z | z | z
      · exact Or.inr (Or.inl z)
      · exact Or.inr (Or.inr (Or.inl z))
      · exact Or.inr (Or.inr (Or.inr (Or.inl z)))
      · exact Or.inr (Or.inr (Or.inr (Or.inr (Or.inl z))))
      · exact absurd z hn
  · rcases hk with z | z | z | z
    · rcases z.1 with z | z
      · exact Or.inr (Or.inr (Or.inr (Or.inr (Or.inr (Or.inl z)))))
      · exact Or.inr (Or.inr (Or.inr (Or.inr (Or.inr (Or.inr (Or.inl z))))))
    · exact Or.inr (Or.inr (Or.inr (Or.inr (Or.inr (Or.inr (Or.inr (Or.inl z.1)))))))
    · exact Or.inr (Or.inr (Or.inr (Or.inr (Or.inr (Or.inr (Or.inr (Or.inr (Or.inl z.1))))))))
    · exact Or.inr (Or.inr (Or.inr (Or.inr (Or.inr (Or.inr (Or.inr (Or.inr (Or.inr z.1))))))))
end PCs
section ParserMain2
variable {H : mu_H} {m B d : Nat}
theorem pb_open (h : ps m H) (hb : ps_pot m H ≤ 2097000) (v : Int32) (hc0 : CT (ab m H)) (he0 : CE (ab m H)) : mu_TV (mu_D (d + 4)) 137 [.inr (.inr (some m)), .inl v] H (fun H1 => ps m H1 ∧ pt m B H H1 ∧ (∀ i, mu_i H1 80 i = mu_i H 80 i) ∧ gi_sz H1 89 = gi_sz H 89 ∧ ps_pot m H1 = ps_pot m H + 11 ∧ CT (ab m H1) ∧ ab m H1 11 = ab m H 11 ∧ (ab m H1 1).1 = (ab m H 1).1 + 1) := by
  have hm := h.2.1
  refine mu_meth (M := mu_m137) rfl rfl ?_
  refine mw_ht (mu_fn_of (show [0, 1].Nodup by decide)) ?_
  refine mw_go mu_g137 (k := 2) (f1 := (4, [(0, .inr (.inr (some m))), (1, .inl v)], [.inr (.inr (mu_r H m 1))], H)) (C := [mu_is H (some m) 6]) rfl (show mu_is H (some m) 6 from h.im) ?_
  rw [h.r1]
  refine mw_go mu_g137 (k := 3) (f1 := (9, [(0, .inr (.inr (some m))), (1, .inl v)], [.inr (.inr (mu_r H m 2)), .inl v, .inr (.inr (some (m + 3)))], H)) (C := [mu_is H (some m) 6]) rfl (show mu_is H (some m) 6 from h.im) ?_
  rw [h.r2]
  refine mw_go mu_g137 (k := 3) (f1 := (16, [(0, .inr (.inr (some m))), (1, .inl v)], [.inr (.inr (mu_r H m 3)), .inl (mu_i H (m + 5) 2), .inl v, .inr (.inr (some (m + 3)))], H)) (C := [mu_is H (some (m + 5)) 10, mu_is H (some m) 6]) rfl (show (mu_is H (some (m + 5)) 10) ∧ (mu_is H (some m) 6) from ⟨h.i2, h.im⟩) ?_
  rw [h.r3]
  refine mw_go mu_g137 (k := 3) (f1 := (23, [(0, .inr (.inr (some m))), (1, .inl v)], [.inr (.inr (mu_r H m 6)), .inl (mu_i H (m + 7) 2), .inl (mu_i H (m + 5) 2), .inl v, .inr (.inr (some (m + 3)))], H)) (C := [mu_is H (some (m + 7)) 10, mu_is H (some m) 6]) rfl (show (mu_is H (some (m + 7)) 10) ∧ (mu_is H (some m) 6) from ⟨h.i3, h.im⟩) ?_
  rw [h.r6]
  refine mw_go mu_g137 (k := 1) (f1 := (26, [(0, .inr (.inr (some m))), (1, .inl v)], [.inl (mu_i H (m + 13) 2), .inl (mu_i H (m + 7) 2), .inl (mu_i H (m + 5) 2), .inl v, .inr (.inr (some (m + 3)))], H)) (C := [mu_is H (some (m + 13)) 10]) rfl (show mu_is H (some (m + 13)) 10 from h.i6) ?_
  refine mw_cI (fun _ => rfl) (show mu_is H (some (m + 3)) 10 from h.i1) (pb_put1 (d := d) (B := B) h (by omega) v (mu_i H (m + 5) 2) (mu_i H (m + 7) 2) (mu_i H (m + 13) 2)) (fun x1 H1 q1 => ?_)
  obtain ⟨hp1, qt1, qx1, qi1, qs1, qb1, qa1⟩ := q1
  obtain rfl : x1 = nI ((ab m H) 1).1 := qx1
  have ht1 := (pt.refl m B H).trans qt1
  have ha1 : ab m H1 = (tp 1 (ab m H) v (nI ((ab m H) 2).1) (nI ((ab m H) 3).1) (nI ((ab m H) 6).1)) := qa1.trans (by rw [(show mu_i H (m + 5) 2 = nI ((ab m H) 2).1 from sz_n h rfl (j := 2) (by decide)), (show mu_i H (m + 7) 2 = nI ((ab m H) 3).1 from sz_n h rfl (j := 3) (by decide)), (show mu_i H (m + 13) 2 = nI ((ab m H) 6).1 from sz_n h rfl (j := 6) (by decide))])
  refine mw_go mu_g137 (k := 3) (f1 := (34, [(2, .inl (nI ((ab m H) 1).1)), (0, .inr (.inr (some m))), (1, .inl v)], [.inr (.inr (mu_r H1 m 1))], H1)) (C := [mu_is H1 (some m) 6]) rfl (show mu_is H1 (some m) 6 from hp1.im) ?_
  rw [hp1.r1]
  refine mw_go mu_g137 (k := 4) (f1 := (40, [(2, .inl (nI ((ab m H) 1).1)), (0, .inr (.inr (some m))), (1, .inl v)], [.inr (.inr (mu_r H1 m 7)), .inl (4 : Int32), .inl (nI ((ab m H) 1).1), .inr (.inr (some (m + 3)))], H1)) (C := [mu_is H1 (some m) 6]) rfl (show mu_is H1 (some m) 6 from hp1.im) ?_
  rw [hp1.r7]
  refine mw_go mu_g137 (k := 1) (f1 := (43, [(2, .inl (nI ((ab m H) 1).1)), (0, .inr (.inr (some m))), (1, .inl v)], [.inl (mu_i H1 (m + 15) 2), .inl (4 : Int32), .inl (nI ((ab m H) 1).1), .inr (.inr (some (m + 3)))], H1)) (C := [mu_is H1 (some (m + 15)) 10]) rfl (show mu_is H1 (some (m + 15)) 10 from hp1.i7) ?_
  refine mw_cV (fun _ => rfl) (show mu_is H1 (some (m + 3)) 10 from hp1.i1) (gi_set_ok (d := (d + 2)) hp1.1 hp1.w1 (nI ((ab m H) 1).1) (mu_i H1 (m + 15) 2) (j := 4) (by decide)) (fun H2 q2 => ?_)
  have qa2 : ab m H2 = tx 1 (ab m H1) (nI ((ab m H) 1).1) 4 (mu_i H1 (m + 15) 2) := by rw [q2]; exact ab_set hp1.1 hp1.2.1 (j := 1) (by decide)
  obtain ⟨hp2, qt2, qi2, qs2, qb2⟩ := ps_set (B := B) hp1 (j := 4) (row := (nI ((ab m H) 1).1)) (v := (mu_i H1 (m + 15) 2)) hp1.w1 (by omega)
  rw [← q2] at hp2 qt2 qi2 qs2 qb2
  have ht2 := ht1.trans qt2
  have ha2 : ab m H2 = (tx 1 (tp 1 (ab m H) v (nI ((ab m H) 2).1) (nI ((ab m H) 3).1) (nI ((ab m H) 6).1)) (nI ((ab m H) 1).1) 4 (nI ((tp 1 (ab m H) v (nI ((ab m H) 2).1) (nI ((ab m H) 3).1) (nI ((ab m H) 6).1)) 7).1)) := qa2.trans (by rw [ha1, (show mu_i H1 (m + 15) 2 = nI ((tp 1 (ab m H) v (nI ((ab m H) 2).1) (nI ((ab m H) 3).1) (nI ((ab m H) 6).1)) 7).1 from sz_n hp1 ha1 (j := 7) (by decide))])
  refine mw_go mu_g137 (k := 2) (f1 := (50, [(2, .inl (nI ((ab m H) 1).1)), (0, .inr (.inr (some m))), (1, .inl v)], [.inr (.inr (mu_r H2 m 1))], H2)) (C := [mu_is H2 (some m) 6]) rfl (show mu_is H2 (some m) 6 from hp2.im) ?_
  rw [hp2.r1]
  refine mw_go mu_g137 (k := 4) (f1 := (56, [(2, .inl (nI ((ab m H) 1).1)), (0, .inr (.inr (some m))), (1, .inl v)], [.inr (.inr (mu_r H2 m 8)), .inl (5 : Int32), .inl (nI ((ab m H) 1).1), .inr (.inr (some (m + 3)))], H2)) (C := [mu_is H2 (some m) 6]) rfl (show mu_is H2 (some m) 6 from hp2.im) ?_
  rw [hp2.r8]
  refine mw_go mu_g137 (k := 1) (f1 := (59, [(2, .inl (nI ((ab m H) 1).1)), (0, .inr (.inr (some m))), (1, .inl v)], [.inl (mu_i H2 (m + 17) 2), .inl (5 : Int32), .inl (nI ((ab m H) 1).1), .inr (.inr (some (m + 3)))], H2)) (C := [mu_is H2 (some (m + 17)) 10]) rfl (show mu_is H2 (some (m + 17)) 10 from hp2.i8) ?_
  refine mw_cV (fun _ => rfl) (show mu_is H2 (some (m + 3)) 10 from hp2.i1) (gi_set_ok (d := (d + 2)) hp2.1 hp2.w1 (nI ((ab m H) 1).1) (mu_i H2 (m + 17) 2) (j := 5) (by decide)) (fun H3 q3 => ?_)
  have qa3 : ab m H3 = tx 1 (ab m H2) (nI ((ab m H) 1).1) 5 (mu_i H2 (m + 17) 2) := by rw [q3]; exact ab_set hp2.1 hp2.2.1 (j := 1) (by decide)
  obtain ⟨hp3, qt3, qi3, qs3, qb3⟩ := ps_set (B := B) hp2 (j := 5) (row := (nI ((ab m H) 1).1)) (v := (mu_i H2 (m + 17) 2)) hp2.w1 (by omega)
  rw [← q3] at hp3 qt3 qi3 qs3 qb3
  have ht3 := ht2.trans qt3
  have ha3 : ab m H3 = (tx 1 (tx 1 (tp 1 (ab m H) v (nI ((ab m H) 2).1) (nI ((ab m H) 3).1) (nI ((ab m H) 6).1)) (nI ((ab m H) 1).1) 4 (nI ((tp 1 (ab m H) v (nI ((ab m H) 2).1) (nI ((ab m H) 3).1) (nI ((ab m H) 6).1)) 7).1)) (nI ((ab m H) 1).1) 5 (nI ((tx 1 (tp 1 (ab m H) v (nI ((ab m H) 2).1) (nI ((ab m H) 3).1) (nI ((ab m H) 6).1)) (nI ((ab m H) 1).1) 4 (nI ((tp 1 (ab m H) v (nI ((ab m H) 2).1) (nI ((ab m H) 3).1) (nI ((ab m H) 6).1)) 7).1)) 8).1)) := qa3.trans (by rw [ha2, (show mu_i H2 (m + 17) 2 = nI ((tx 1 (tp 1 (ab m H) v (nI ((ab m H) 2).1) (nI ((ab m H) 3).1) (nI ((ab m H) 6).1)) (nI ((ab m H) 1).1) 4 (nI ((tp 1 (ab m H) v (nI ((ab m H) 2).1) (nI ((ab m H) 3).1) (nI ((ab m H) 6).1)) 7).1)) 8).1 from sz_n hp2 ha2 (j := 8) (by decide))])
  refine mw_go mu_g137 (k := 2) (f1 := (66, [(2, .inl (nI ((ab m H) 1).1)), (0, .inr (.inr (some m))), (1, .inl v)], [.inr (.inr (mu_r H3 m 1))], H3)) (C := [mu_is H3 (some m) 6]) rfl (show mu_is H3 (some m) 6 from hp3.im) ?_
  rw [hp3.r1]
  refine mw_go mu_g137 (k := 4) (f1 := (73, [(2, .inl (nI ((ab m H) 1).1)), (0, .inr (.inr (some m))), (1, .inl v)], [.inr (.inr (mu_r H3 m 9)), .inl (6 : Int32), .inl (nI ((ab m H) 1).1), .inr (.inr (some (m + 3)))], H3)) (C := [mu_is H3 (some m) 6]) rfl (show mu_is H3 (some m) 6 from hp3.im) ?_
  rw [hp3.r9]
  refine mw_go mu_g137 (k := 1) (f1 := (76, [(2, .inl (nI ((ab m H) 1).1)), (0, .inr (.inr (some m))), (1, .inl v)], [.inl (mu_i H3 (m + 19) 2), .inl (6 : Int32), .inl (nI ((ab m H) 1).1), .inr (.inr (some (m + 3)))], H3)) (C := [mu_is H3 (some (m + 19)) 10]) rfl (show mu_is H3 (some (m + 19)) 10 from hp3.i9) ?_
  refine mw_cV (fun _ => rfl) (show mu_is H3 (some (m + 3)) 10 from hp3.i1) (gi_set_ok (d := (d + 2)) hp3.1 hp3.w1 (nI ((ab m H) 1).1) (mu_i H3 (m + 19) 2) (j := 6) (by decide)) (fun H4 q4 => ?_)
  have qa4 : ab m H4 = tx 1 (ab m H3) (nI ((ab m H) 1).1) 6 (mu_i H3 (m + 19) 2) := by rw [q4]; exact ab_set hp3.1 hp3.2.1 (j := 1) (by decide)
  obtain ⟨hp4, qt4, qi4, qs4, qb4⟩ := ps_set (B := B) hp3 (j := 6) (row := (nI ((ab m H) 1).1)) (v := (mu_i H3 (m + 19) 2)) hp3.w1 (by omega)
  rw [← q4] at hp4 qt4 qi4 qs4 qb4
  have ht4 := ht3.trans qt4
  have ha4 : ab m H4 = (tx 1 (tx 1 (tx 1 (tp 1 (ab m H) v (nI ((ab m H) 2).1) (nI ((ab m H) 3).1) (nI ((ab m H) 6).1)) (nI ((ab m H) 1).1) 4 (nI ((tp 1 (ab m H) v (nI ((ab m H) 2).1) (nI ((ab m H) 3).1) (nI ((ab m H) 6).1)) 7).1)) (nI ((ab m H) 1).1) 5 (nI ((tx 1 (tp 1 (ab m H) v (nI ((ab m H) 2).1) (nI ((ab m H) 3).1) (nI ((ab m H) 6).1)) (nI ((ab m H) 1).1) 4 (nI ((tp 1 (ab m H) v (nI ((ab m H) 2).1) (nI ((ab m H) 3).1) (nI ((ab m H) 6).1)) 7).1)) 8).1)) (nI ((ab m H) 1).1) 6 (nI ((tx 1 (tx 1 (tp 1 (ab m H) v (nI ((ab m H) 2).1) (nI ((ab m H) 3).1) (nI ((ab m H) 6).1)) (nI ((ab m H) 1).1) 4 (nI ((tp 1 (ab m H) v (nI ((ab m H) 2).1) (nI ((ab m H) 3).1) (nI ((ab m H) 6).1)) 7).1)) (nI ((ab m H) 1).1) 5 (nI ((tx 1 (tp 1 (ab m H) v (nI ((ab m H) 2).1) (nI ((ab m H) 3).1) (nI ((ab m H) 6).1)) (nI ((ab m H) 1).1) 4 (nI ((tp 1 (ab m H) v (nI ((ab m H) 2).1) (nI ((ab m H) 3).1) (nI ((ab m H) 6).1)) 7).1)) 8).1)) 9).1)) := qa4.trans (by rw [ha3, (show mu_i H3 (m + 19) 2 = nI ((tx 1 (tx 1 (tp 1 (ab m H) v (nI ((ab m H) 2).1) (nI ((ab m H) 3).1) (nI ((ab m H) 6).1)) (nI ((ab m H) 1).1) 4 (nI ((tp 1 (ab m H) v (nI ((ab m H) 2).1) (nI ((ab m H) 3).1) (nI ((ab m H) 6).1)) 7).1)) (nI ((ab m H) 1).1) 5 (nI ((tx 1 (tp 1 (ab m H) v (nI ((ab m H) 2).1) (nI ((ab m H) 3).1) (nI ((ab m H) 6).1)) (nI ((ab m H) 1).1) 4 (nI ((tp 1 (ab m H) v (nI ((ab m H) 2).1) (nI ((ab m H) 3).1) (nI ((ab m H) 6).1)) 7).1)) 8).1)) 9).1 from sz_n hp3 ha3 (j := 9) (by decide))])
  exact mw_of (fun _ => mu_ret rfl trivial ⟨H4, rfl, hp4, ht4, (fun j => by rw [qi4]; rw [qi3]; rw [qi2]; rw [qi1]), by omega, by omega, (by rw [ha4]; exact (mod_c hc0 he0 (fun j hj => ab_lt h rfl (by omega))).1), (by rw [ha4]; rfl), (by rw [ha4]; exact (mod_c hc0 he0 (fun j hj => ab_lt h rfl (by omega))).2)⟩)
theorem pb_module (h : ps m H) (hBB : B ≤ 1000000) (hB : ps_pot m H ≤ B + 80) (hc0 : CT (ab m H)) (hst0 : (ab m H 11).1 = 0) (he0 : CE (ab m H)) : mu_TI (mu_D (d + 5)) 47 [.inr (.inr (some 80))] H (fun x H1 => (x = 0 ∧ ps m H1 ∧ pt m B H H1 ∧ ps_pot m H1 ≤ ps_pot m H + 60) ∨ (x = 1 ∧ ps m H1 ∧ pt m B H H1 ∧ ps_pot m H1 + 0 ≤ ps_pot m H ∧ PC m H1)) := by
  refine mu_meth (M := mu_m47) rfl rfl ?_
  refine mw_ht (mu_fn_of (show [0].Nodup by decide)) ?_
  refine mw_go mu_g47 (k := 2) (f1 := (2, [(0, .inr (.inr (some 80)))], [.inl (0 : Int32), .inr (.inr (some 80))], H)) (C := []) rfl trivial ?_
  refine mw_cI (fun _ => rfl) (show mu_is H (some 80) 7 from h.1.is rfl) (pb_take (d := (d + 1)) (B := B) h (0 : Int32) (by decide)) (fun x1 H1 q1 => ?_)
  rcases q1 with ⟨rfl, rfl, qe1⟩ | ⟨rfl, hp1, qt1, qk1, qb1, qe1, qa1⟩
  · -- (0 : Int32)
    refine mw_if (P := (0 : Int32) = 0) (a := 8) (b := 10) (fun _ => rfl) trivial (fun h2 => ?_) (fun h2 => absurd (by decide) h2)
    refine mw_go mu_g47 (k := 1) (f1 := (9, [(0, .inr (.inr (some 80)))], [.inl (0 : Int32)], H)) (C := []) rfl trivial ?_
    exact mw_of (fun _ => mu_ret rfl (Or.inl rfl) ⟨_, H, rfl, Or.inl ⟨rfl, h, (pt.refl m B H), by omega⟩⟩)
  · -- (1 : Int32)
    have ht1 := (pt.refl m B H).trans qt1
    have qs1 : gi_sz H1 89 = gi_sz H 89 := qk1.2
    have ha1 : ab m H1 = (ab m H) := qa1
    refine mw_if (P := (1 : Int32) = 0) (a := 8) (b := 10) (fun _ => rfl) trivial (fun h3 => absurd h3 (by decide)) (fun h3 => ?_)
    refine mw_go mu_g47 (k := 2) (f1 := (14, [(0, .inr (.inr (some 80)))], [.inr (.inr (mu_r H1 80 2))], H1)) (C := [mu_is H1 (some 80) 7]) rfl (show mu_is H1 (some 80) 7 from hp1.1.is rfl) ?_
    rw [hp1.m80]
    refine mw_go mu_g47 (k := 2) (f1 := (18, [(0, .inr (.inr (some 80)))], [.inl (mu_i H1 80 5), .inr (.inr (some m))], H1)) (C := [mu_is H1 (some 80) 7]) rfl (show mu_is H1 (some 80) 7 from hp1.1.is rfl) ?_
    refine mw_cV (fun _ => rfl) (show mu_is H1 (some m) 6 from hp1.im) (pb_open (d := d) (B := B) hp1 (by omega) (mu_i H1 80 5) (by rw [ha1]; exact hc0) (by rw [ha1]; exact he0)) (fun H4 q4 => ?_)
    obtain ⟨hp4, qt4, qi4, qs4, qb4, qc4, qu4, qv4⟩ := q4
    have ht4 := ht1.trans qt4
    have hu4 : (ab m H4 11).1 = 0 := by rw [qu4, ha1]; exact hst0
    have hv4 : 1 ≤ (ab m H4 1).1 := by omega
    refine mw_go mu_g47 (k := 5) (f1 := (29, [(0, .inr (.inr (some 80)))], [.inl (112 : Int32), .inr (.inr (some 80))], (mu_si H4 80 6 (1 : Int32)))) (C := [mu_is H4 (some 80) 7]) rfl (show mu_is H4 (some 80) 7 from hp4.1.is rfl) ?_
    have hp5 : ps m (mu_si H4 80 6 (1 : Int32)) := hp4.si (by decide) (by decide)
    have ht5 : pt m B H (mu_si H4 80 6 (1 : Int32)) := ht4.trans (pt.si hp4)
    have ha5 : ab m (mu_si H4 80 6 (1 : Int32)) = (ab m H4) := ab_si hp4.1 hp4.2.1
    have hb5 : ps_pot m (mu_si H4 80 6 (1 : Int32)) + ps_mp (mu_i H4 80 6) = ps_pot m H4 + 0 := ps_pot6 hp4 (1 : Int32)
    have hc5 : ps_mp (mu_i H4 80 6) = ps_mp (mu_i H 80 6) := congrArg ps_mp (show mu_i H4 80 6 = (mu_i H 80 6) from ((qi4 6).trans (qk1.1 6 (by decide))))
    have hs5 : gi_sz (mu_si H4 80 6 (1 : Int32)) 89 = gi_sz H4 89 := rfl
    have hi6_3 : mu_i (mu_si H4 80 6 (1 : Int32)) 80 3 = (mu_i H1 80 3) := (qi4 3)
    have hi6_4 : mu_i (mu_si H4 80 6 (1 : Int32)) 80 4 = (mu_i H1 80 4) := (qi4 4)
    have hi6_5 : mu_i (mu_si H4 80 6 (1 : Int32)) 80 5 = (mu_i H1 80 5) := (qi4 5)
    have hi6_7 : mu_i (mu_si H4 80 6 (1 : Int32)) 80 7 = (mu_i H 80 7) := ((qi4 7).trans (qk1.1 7 (by decide)))
    have hi6_8 : mu_i (mu_si H4 80 6 (1 : Int32)) 80 8 = (mu_i H 80 8) := ((qi4 8).trans (qk1.1 8 (by decide)))
    have hi6_9 : mu_i (mu_si H4 80 6 (1 : Int32)) 80 9 = (mu_i H 80 9) := ((qi4 9).trans (qk1.1 9 (by decide)))
    have hi6_10 : mu_i (mu_si H4 80 6 (1 : Int32)) 80 10 = (mu_i H 80 10) := ((qi4 10).trans (qk1.1 10 (by decide)))
    have hi6_11 : mu_i (mu_si H4 80 6 (1 : Int32)) 80 11 = (mu_i H 80 11) := ((qi4 11).trans (qk1.1 11 (by decide)))
    refine mw_cI (fun _ => rfl) (show mu_is (mu_si H4 80 6 (1 : Int32)) (some 80) 7 from hp5.1.is rfl) (pb_take (d := (d + 1)) (B := B) hp5 (112 : Int32) (by decide)) (fun x7 H7 q7 => ?_)
    rcases q7 with ⟨rfl, rfl, qe7⟩ | ⟨rfl, hp7, qt7, qk7, qb7, qe7, qa7⟩
    · -- (0 : Int32)
      refine mw_if (P := (0 : Int32) = 0) (a := 55) (b := 35) (fun _ => rfl) trivial (fun h8 => ?_) (fun h8 => absurd (by decide) h8)
      refine mw_go mu_g47 (k := 1) (f1 := (56, [(0, .inr (.inr (some 80)))], [.inl (0 : Int32)], (mu_si H4 80 6 (1 : Int32)))) (C := []) rfl trivial ?_
      exact mw_of (fun _ => mu_ret rfl (Or.inl rfl) ⟨_, (mu_si H4 80 6 (1 : Int32)), rfl, Or.inl ⟨rfl, hp5, ht5, by omega⟩⟩)
    · -- (1 : Int32)
      have ht7 := ht5.trans qt7
      have qs7 : gi_sz H7 89 = gi_sz (mu_si H4 80 6 (1 : Int32)) 89 := qk7.2
      have ha7 : ab m H7 = (ab m H4) := qa7.trans (by rw [ha5])
      refine mw_if (P := (1 : Int32) = 0) (a := 55) (b := 35) (fun _ => rfl) trivial (fun h9 => absurd h9 (by decide)) (fun h9 => ?_)
      refine mw_go mu_g47 (k := 3) (f1 := (41, [(0, .inr (.inr (some 80)))], [.inl (64 : Int32), .inl (mu_i H7 80 4)], H7)) (C := [mu_is H7 (some 80) 7]) rfl (show mu_is H7 (some 80) 7 from hp7.1.is rfl) ?_
      refine mw_if (P := (mu_i H7 80 4) = (64 : Int32)) (a := 44) (b := 51) (fun _ => rfl) trivial (fun h10 => ?_) (fun h10 => ?_)
      · -- 44: (mu_i H7 80 4) = (64 : Int32)
        refine mw_go mu_g47 (k := 1) (f1 := (45, [(0, .inr (.inr (some 80)))], [.inr (.inr (some 80))], H7)) (C := []) rfl trivial ?_
        refine mw_cI (fun _ => rfl) (show mu_is H7 (some 80) 7 from hp7.1.is rfl) (pb_params (d := d) (B := B) hp7 hBB (by omega) (show mu_i H7 80 4 < 114 from (show (mu_i H7 80 4) < 114 from (by rw [h10]; decide))) (by rw [ha7]; exact qc4)) (fun x11 H11 q11 => ?_)
        rcases q11 with ⟨rfl, hp11, qt11, qb11⟩ | ⟨rfl, hp11, qt11, qb11, qk11, qi11⟩
        · -- (0 : Int32)
          have ht11 := ht7.trans qt11
          have hc11 : ps_mp (mu_i H7 80 6) = 0 := by rw [show mu_i H7 80 6 = (1 : Int32) from (qk7.1 6 (by decide))]; rfl
          refine mw_if (P := (0 : Int32) = 0) (a := 55) (b := 51) (fun _ => rfl) trivial (fun h12 => ?_) (fun h12 => absurd (by decide) h12)
          refine mw_go mu_g47 (k := 1) (f1 := (56, [(0, .inr (.inr (some 80)))], [.inl (0 : Int32)], H11)) (C := []) rfl trivial ?_
          exact mw_of (fun _ => mu_ret rfl (Or.inl rfl) ⟨_, H11, rfl, Or.inl ⟨rfl, hp11, ht11, by omega⟩⟩)
        · -- (1 : Int32)
          have ht11 := ht7.trans qt11
          have hc11 : ps_mp (mu_i H7 80 6) = 0 := by rw [show mu_i H7 80 6 = (1 : Int32) from (qk7.1 6 (by decide))]; rfl
          have qc11 := qk11.1
          have hu11 : (ab m H11 11).1 = 0 := by rw [qk11.2.2, ha7]; exact hu4
          have hv11 : 1 ≤ (ab m H11 1).1 := by rw [qk11.2.1, ha7]; exact hv4
          refine mw_if (P := (1 : Int32) = 0) (a := 55) (b := 51) (fun _ => rfl) trivial (fun h13 => absurd h13 (by decide)) (fun h13 => ?_)
          refine mw_go mu_g47 (k := 2) (f1 := (56, [(0, .inr (.inr (some 80)))], [.inl (1 : Int32)], H11)) (C := []) rfl trivial ?_
          exact mw_of (fun _ => mu_ret rfl (Or.inr rfl) ⟨_, H11, rfl, Or.inr ⟨rfl, hp11, ht11, by omega, (PC_0 (show mu_i H11 80 6 = 1 from ((qi11 6 (by decide)).trans (qk7.1 6 (by decide)))) rfl qc11 (Nat.le_of_succ_le (pot_b (m := m) (H := H11) rfl (by omega))) hu11 (Or.inr ⟨by decide, hv11⟩))⟩⟩)
      · -- 51: not (mu_i H7 80 4) = (64 : Int32)
        refine mw_go mu_g47 (k := 2) (f1 := (56, [(0, .inr (.inr (some 80)))], [.inl (1 : Int32)], H7)) (C := []) rfl trivial ?_
        exact mw_of (fun _ => mu_ret rfl (Or.inr rfl) ⟨_, H7, rfl, Or.inr ⟨rfl, hp7, ht7, by omega, (PC_0 (show mu_i H7 80 6 = 1 from (qk7.1 6 (by decide))) ha7 qc4 (Nat.le_of_succ_le (pot_b (m := m) (H := H7) ha7 (by omega))) hu4 (Or.inr ⟨by decide, hv4⟩))⟩⟩)
theorem pb_symbols (h : ps m H) (hc0 : CT (ab m H)) (he0 : CE (ab m H)) : mu_TV (mu_D (d + 3)) 146 [.inr (.inr (some 80))] H (fun H1 => ps m H1 ∧ pt m B H H1 ∧ ps_pot m H1 = ps_pot m H ∧ CT (ab m H1) ∧ CE (ab m H1)) := by
  have hm := h.2.1
  refine mu_meth (M := mu_m146) rfl rfl ?_
  refine mw_ht (mu_fn_of (show [0].Nodup by decide)) ?_
  refine mw_go mu_g146 (k := 2) (f1 := (2, [(1, .inl (0 : Int32)), (0, .inr (.inr (some 80)))], [], H)) (C := []) rfl trivial ?_
  have hk : ∀ j, j ≠ 1000 → mu_i H 80 j = mu_i H 80 j := (fun j hj => by rfl)
  show mu_W _ _ (2, [(1, .inl (nI 0)), (0, .inr (.inr (some 80)))], [], H) _
  refine mw_sub (L' := [(1, .inl (nI 0)), (0, .inr (.inr (some 80)))]) (by simp) ?_
  refine mw_down (α := Nat × mu_H) (fun s => (2, [(1, .inl (nI s.1)), (0, .inr (.inr (some 80)))], [], s.2)) (fun s => 2147483648 - s.1) (fun s => (ps m s.2) ∧ (pt m B H s.2) ∧ (∀ j, j ≠ 1000 → mu_i s.2 80 j = mu_i H 80 j) ∧ (ps_pot m s.2 = ps_pot m H) ∧ (s.1 < 2147483648) ∧ (CT (ab m s.2) ∧ CE (ab m s.2))) (fun s hs ih => ?_) (0, H) ⟨h, (pt.refl m B H), hk, (show ps_pot m H = ps_pot m H from by omega), (show 0 < 2147483648 from by omega), (show CT (ab m H) ∧ CE (ab m H) from ⟨hc0, he0⟩)⟩
  obtain ⟨k, Hs⟩ := s
  obtain ⟨hps, hts, his, hbs, hks, hcs⟩ := hs
  have hps : ps m Hs := hps
  have hts : pt m B H Hs := hts
  have his : ∀ j, j ≠ 1000 → mu_i Hs 80 j = mu_i H 80 j := his
  have hbs : ps_pot m Hs = ps_pot m H := hbs
  have hks : k < 2147483648 := hks
  have hcs : CT (ab m Hs) ∧ CE (ab m Hs) := hcs
  show mu_W _ _ (2, [(1, .inl (nI k)), (0, .inr (.inr (some 80)))], [], Hs) _
  refine mw_go mu_g146 (k := 3) (f1 := (7, [(1, .inl (nI k)), (0, .inr (.inr (some 80)))], [.inr (.inr (mu_r Hs 80 2)), .inl (nI k)], Hs)) (C := [mu_is Hs (some 80) 7]) rfl (show mu_is Hs (some 80) 7 from hps.1.is rfl) ?_
  rw [hps.m80]
  refine mw_go mu_g146 (k := 1) (f1 := (10, [(1, .inl (nI k)), (0, .inr (.inr (some 80)))], [.inr (.inr (mu_r Hs m 9)), .inl (nI k)], Hs)) (C := [mu_is Hs (some m) 6]) rfl (show mu_is Hs (some m) 6 from hps.im) ?_
  rw [hps.r9]
  refine mw_go mu_g146 (k := 1) (f1 := (13, [(1, .inl (nI k)), (0, .inr (.inr (some 80)))], [.inl (mu_i Hs (m + 19) 2), .inl (nI k)], Hs)) (C := [mu_is Hs (some (m + 19)) 10]) rfl (show mu_is Hs (some (m + 19)) 10 from hps.i9) ?_
  refine mw_if (P := (nI k) < (mu_i Hs (m + 19) 2)) (a := 16) (b := 66) (fun _ => rfl) trivial (fun h1 => ?_) (fun h1 => ?_)
  · -- 16: (nI k) < (mu_i Hs (m + 19) 2)
    have hk2 := nI_up hks h1
    refine mw_go mu_g146 (k := 2) (f1 := (20, [(1, .inl (nI k)), (0, .inr (.inr (some 80)))], [.inr (.inr (mu_r Hs 80 0))], Hs)) (C := [mu_is Hs (some 80) 7]) rfl (show mu_is Hs (some 80) 7 from hps.1.is rfl) ?_
    rw [(hps.1.r (p := 80) (j := 0) (q := 81) rfl)]
    refine mw_go mu_g146 (k := 2) (f1 := (24, [(1, .inl (nI k)), (0, .inr (.inr (some 80)))], [.inr (.inr (mu_r Hs 80 2)), .inr (.inr (some 81))], Hs)) (C := [mu_is Hs (some 80) 7]) rfl (show mu_is Hs (some 80) 7 from hps.1.is rfl) ?_
    rw [hps.m80]
    refine mw_go mu_g146 (k := 1) (f1 := (27, [(1, .inl (nI k)), (0, .inr (.inr (some 80)))], [.inr (.inr (mu_r Hs m 10)), .inr (.inr (some 81))], Hs)) (C := [mu_is Hs (some m) 6]) rfl (show mu_is Hs (some m) 6 from hps.im) ?_
    rw [hps.r10]
    refine mw_go mu_g146 (k := 2) (f1 := (31, [(1, .inl (nI k)), (0, .inr (.inr (some 80)))], [.inr (.inr (mu_r Hs 80 2)), .inr (.inr (some (m + 21))), .inr (.inr (some 81))], Hs)) (C := [mu_is Hs (some 80) 7]) rfl (show mu_is Hs (some 80) 7 from hps.1.is rfl) ?_
    rw [hps.m80]
    refine mw_go mu_g146 (k := 1) (f1 := (34, [(1, .inl (nI k)), (0, .inr (.inr (some 80)))], [.inr (.inr (mu_r Hs m 9)), .inr (.inr (some (m + 21))), .inr (.inr (some 81))], Hs)) (C := [mu_is Hs (some m) 6]) rfl (show mu_is Hs (some m) 6 from hps.im) ?_
    rw [hps.r9]
    refine mw_go mu_g146 (k := 2) (f1 := (36, [(1, .inl (nI k)), (0, .inr (.inr (some 80)))], [.inl (0 : Int32), .inl (nI k), .inr (.inr (some (m + 19))), .inr (.inr (some (m + 21))), .inr (.inr (some 81))], Hs)) (C := []) rfl trivial ?_
    refine mw_cIe (fun _ => rfl) (show mu_is Hs (some (m + 19)) 10 from hps.i9) (gi_get_ok (d := (d + 1)) (H := Hs) hps.1 hps.w9 (nI k) (j := 0) (by decide)) ?_
    refine mw_go mu_g146 (k := 1) (f1 := (40, [(1, .inl (nI k)), (0, .inr (.inr (some 80)))], [.inl (0 : Int32), .inl (rw_get Hs (m + 19) 4 (gi_sz Hs (m + 19)) (nI k) 0), .inr (.inr (some (m + 21))), .inr (.inr (some 81))], Hs)) (C := []) rfl trivial ?_
    refine mw_cIe (fun _ => rfl) (show mu_is Hs (some (m + 21)) 10 from hps.i10) (gi_get_ok (d := (d + 1)) (H := Hs) hps.1 hps.w10 (rw_get Hs (m + 19) 4 (gi_sz Hs (m + 19)) (nI k) 0) (j := 0) (by decide)) ?_
    refine mw_cIe (fun _ => rfl) (show mu_is Hs (some 81) 4 from hps.1.is rfl) (lx_symbolOf_ok (d := d) (w := (rw_get Hs (m + 21) 1 (gi_sz Hs (m + 21)) (rw_get Hs (m + 19) 4 (gi_sz Hs (m + 19)) (nI k) 0) 0)) (hps.1.is rfl) (hps.1.r (p := 81) (j := 9) (q := 86) rfl).symm (hps.1.w (r := 86) (W := 4) rfl)) ?_
    refine mw_go mu_g146 (k := 3) (f1 := (51, [(2, .inl (rw_get Hs 86 4 (gi_sz Hs 86) (rw_get Hs (m + 21) 1 (gi_sz Hs (m + 21)) (rw_get Hs (m + 19) 4 (gi_sz Hs (m + 19)) (nI k) 0) 0) 3)), (1, .inl (nI k)), (0, .inr (.inr (some 80)))], [.inr (.inr (mu_r Hs 80 2))], Hs)) (C := [mu_is Hs (some 80) 7]) rfl (show mu_is Hs (some 80) 7 from hps.1.is rfl) ?_
    rw [hps.m80]
    refine mw_go mu_g146 (k := 1) (f1 := (54, [(2, .inl (rw_get Hs 86 4 (gi_sz Hs 86) (rw_get Hs (m + 21) 1 (gi_sz Hs (m + 21)) (rw_get Hs (m + 19) 4 (gi_sz Hs (m + 19)) (nI k) 0) 0) 3)), (1, .inl (nI k)), (0, .inr (.inr (some 80)))], [.inr (.inr (mu_r Hs m 9))], Hs)) (C := [mu_is Hs (some m) 6]) rfl (show mu_is Hs (some m) 6 from hps.im) ?_
    rw [hps.r9]
    refine mw_go mu_g146 (k := 3) (f1 := (57, [(2, .inl (rw_get Hs 86 4 (gi_sz Hs 86) (rw_get Hs (m + 21) 1 (gi_sz Hs (m + 21)) (rw_get Hs (m + 19) 4 (gi_sz Hs (m + 19)) (nI k) 0) 0) 3)), (1, .inl (nI k)), (0, .inr (.inr (some 80)))], [.inl (rw_get Hs 86 4 (gi_sz Hs 86) (rw_get Hs (m + 21) 1 (gi_sz Hs (m + 21)) (rw_get Hs (m + 19) 4 (gi_sz Hs (m + 19)) (nI k) 0) 0) 3), .inl (3 : Int32), .inl (nI k), .inr (.inr (some (m + 19)))], Hs)) (C := []) rfl trivial ?_
    refine mw_cV (fun _ => rfl) (show mu_is Hs (some (m + 19)) 10 from hps.i9) (gi_set_ok (d := (d + 1)) hps.1 hps.w9 (nI k) (rw_get Hs 86 4 (gi_sz Hs 86) (rw_get Hs (m + 21) 1 (gi_sz Hs (m + 21)) (rw_get Hs (m + 19) 4 (gi_sz Hs (m + 19)) (nI k) 0) 0) 3) (j := 3) (by decide)) (fun H5 q5 => ?_)
    have qa5 : ab m H5 = tx 9 (ab m Hs) (nI k) 3 (rw_get Hs 86 4 (gi_sz Hs 86) (rw_get Hs (m + 21) 1 (gi_sz Hs (m + 21)) (rw_get Hs (m + 19) 4 (gi_sz Hs (m + 19)) (nI k) 0) 0) 3) := by rw [q5]; exact ab_set hps.1 hps.2.1 (j := 9) (by decide)
    obtain ⟨hp5, qt5, qi5, qs5, qb5⟩ := ps_set (B := B) hps (j := 3) (row := (nI k)) (v := (rw_get Hs 86 4 (gi_sz Hs 86) (rw_get Hs (m + 21) 1 (gi_sz Hs (m + 21)) (rw_get Hs (m + 19) 4 (gi_sz Hs (m + 19)) (nI k) 0) 0) 3)) hps.w9 (by omega)
    rw [← q5] at hp5 qt5 qi5 qs5 qb5
    have ht5 := hts.trans qt5
    have ha5 : ab m H5 = (tx 9 (ab m Hs) (nI k) 3 (rw_get Hs 86 4 (gi_sz Hs 86) (rw_get Hs (m + 21) 1 (gi_sz Hs (m + 21)) (rw_get Hs (m + 19) 4 (gi_sz Hs (m + 19)) (nI k) 0) 0) 3)) := qa5
    refine mw_go mu_g146 (k := 2) (f1 := (2, [(1, .inl ((nI k) + 1)), (2, .inl (rw_get Hs 86 4 (gi_sz Hs 86) (rw_get Hs (m + 21) 1 (gi_sz Hs (m + 21)) (rw_get Hs (m + 19) 4 (gi_sz Hs (m + 19)) (nI k) 0) 0) 3)), (0, .inr (.inr (some 80)))], [], H5)) (C := []) rfl trivial ?_
    have hk : ∀ j, j ≠ 1000 → mu_i H5 80 j = mu_i H 80 j := (fun j hj => by rw [qi5]; rw [his j (by omega)])
    rw [nI_1]
    exact mw_sub (by simp) (ih (k + 1, H5) ⟨hp5, ht5, hk, (show ps_pot m H5 = ps_pot m H from by omega), (show (k + 1) < 2147483648 from by omega), (show CT (ab m H5) ∧ CE (ab m H5) from (by rw [ha5]; exact ⟨hcs.1.sym, hcs.2.put⟩))⟩ (by show 2147483648 - (k + 1) < 2147483648 - k; omega))
  · -- 66: not (nI k) < (mu_i Hs (m + 19) 2)
    exact mw_of (fun _ => mu_ret rfl trivial ⟨Hs, rfl, hps, hts, by omega, hcs⟩)
theorem pb_main {Φ : mu_R → Prop} (h : ps m H) (hBB : B ≤ 1000000) (hB : ps_pot m H ≤ B) (y0 : Int32) {k0 : Nat} (hk0 : k0 ≤ 524288) (hy0 : y0 = 0 ∨ y0 = 1) (hpc0 : ¬ y0 = 0 → PC m H) (hΦ : ∀ x H1, ps m H1 → pt m B H H1 → ps_pot m H1 ≤ ps_pot m H + 60 → ((x = -1 ∧ CT (ab m H1) ∧ CE (ab m H1)) ∨ x = rw_get H1 82 3 (gi_sz H1 82) (mu_i H1 80 3) 2) → Φ (.inl (some (.inl x)), H1)) : mu_W (mu_D (d + 9)) mu_m35 (48, [(4, .inl y0), (5, .inl (nI k0)), (0, .inr (.inr (some 80)))], [], H) Φ := by
  have hk : ∀ j, False → mu_i H 80 j = mu_i H 80 j := (fun _ hj => hj.elim)
  refine mw_sub (L' := [(4, .inl y0), (5, .inl (nI k0)), (0, .inr (.inr (some 80)))]) (by simp) ?_
  refine mw_down (α := Int32 × Nat × mu_H) (fun s => (48, [(4, .inl s.1), (5, .inl (nI s.2.1)), (0, .inr (.inr (some 80)))], [], s.2.2)) (fun s => 524288 - s.2.1) (fun s => (ps m s.2.2) ∧ (pt m B H s.2.2) ∧ (∀ j, False → mu_i s.2.2 80 j = mu_i H 80 j) ∧ (ps_pot m s.2.2 ≤ ps_pot m H + 60) ∧ (¬ s.1 = 0 → ps_pot m s.2.2 ≤ ps_pot m H) ∧ (¬ s.1 = 0 → PC m s.2.2) ∧ (s.2.1 ≤ 524288)) (fun s hs ih => ?_) (y0, k0, H) ⟨h, (pt.refl m B H), hk, (show ps_pot m H ≤ ps_pot m H + 60 from by omega), (show ¬ y0 = 0 → ps_pot m H ≤ ps_pot m H from (fun _ => by omega)), (show ¬ y0 = 0 → PC m H from hpc0), (show k0 ≤ 524288 from by omega)⟩
  obtain ⟨y, k, Hs⟩ := s
  obtain ⟨hps, hts, his, hbs, hbt, hpc, hks⟩ := hs
  have hps : ps m Hs := hps
  have hts : pt m B H Hs := hts
  have his : ∀ j, False → mu_i Hs 80 j = mu_i H 80 j := his
  have hbs : ps_pot m Hs ≤ ps_pot m H + 60 := hbs
  have hbt : ¬ y = 0 → ps_pot m Hs ≤ ps_pot m H := hbt
  have hpc : ¬ y = 0 → PC m Hs := hpc
  have hks : k ≤ 524288 := hks
  show mu_W _ _ (48, [(4, .inl y), (5, .inl (nI k)), (0, .inr (.inr (some 80)))], [], Hs) _
  refine mw_go mu_g35 (k := 2) (f1 := (52, [(4, .inl y), (5, .inl (nI k)), (0, .inr (.inr (some 80)))], [.inl (524288 : Int32), .inl (nI k)], Hs)) (C := []) rfl trivial ?_
  refine mw_if (P := (nI k) < (524288 : Int32)) (a := 55) (b := 278) (fun _ => rfl) trivial (fun h1 => ?_) (fun h1 => ?_)
  · -- 55: (nI k) < (524288 : Int32)
    have hk2 : k < 524288 := (nI_ltI (b := 524288) (by omega) (by decide)).mp h1
    refine mw_go mu_g35 (k := 1) (f1 := (57, [(4, .inl y), (5, .inl (nI k)), (0, .inr (.inr (some 80)))], [.inl y], Hs)) (C := []) rfl trivial ?_
    refine mw_if (P := y = 0) (a := 278) (b := 60) (fun _ => rfl) trivial (fun h2 => ?_) (fun h2 => ?_)
    · -- 278: y = 0
      refine mw_go mu_g35 (k := 1) (f1 := (280, [(4, .inl y), (5, .inl (nI k)), (0, .inr (.inr (some 80)))], [.inl y], Hs)) (C := []) rfl trivial ?_
      refine mw_if (P := y = 0) (a := 283) (b := 299) (fun _ => rfl) trivial (fun _ => ?_) (fun h3 => absurd h2 h3)
      refine mw_go mu_g35 (k := 2) (f1 := (287, [(4, .inl y), (5, .inl (nI k)), (0, .inr (.inr (some 80)))], [.inr (.inr (mu_r Hs 80 0))], Hs)) (C := [mu_is Hs (some 80) 7]) rfl (show mu_is Hs (some 80) 7 from hps.1.is rfl) ?_
      rw [(hps.1.r (p := 80) (j := 0) (q := 81) rfl)]
      refine mw_go mu_g35 (k := 1) (f1 := (290, [(4, .inl y), (5, .inl (nI k)), (0, .inr (.inr (some 80)))], [.inr (.inr (mu_r Hs 81 5))], Hs)) (C := [mu_is Hs (some 81) 4]) rfl (show mu_is Hs (some 81) 4 from hps.1.is rfl) ?_
      rw [(hps.1.r (p := 81) (j := 5) (q := 82) rfl)]
      refine mw_go mu_g35 (k := 3) (f1 := (295, [(4, .inl y), (5, .inl (nI k)), (0, .inr (.inr (some 80)))], [.inl (2 : Int32), .inl (mu_i Hs 80 3), .inr (.inr (some 82))], Hs)) (C := [mu_is Hs (some 80) 7]) rfl (show mu_is Hs (some 80) 7 from hps.1.is rfl) ?_
      refine mw_cIe (fun _ => rfl) (show mu_is Hs (some 82) 10 from hps.1.is rfl) (gi_get_ok (d := (d + 8)) (H := Hs) hps.1 (r := 82) (W := 3) rfl (mu_i Hs 80 3) (j := 2) (by decide)) ?_
      exact mw_of (fun _ => mu_ret rfl trivial (hΦ _ Hs hps hts (by omega) (Or.inr rfl)))
    · -- 60: not y = 0
      have hb2 := hbt h2
      have hP : PC m Hs := hpc h2
      refine mw_go mu_g35 (k := 3) (f1 := (66, [(4, .inl y), (5, .inl (nI k)), (0, .inr (.inr (some 80)))], [.inl (10 : Int32), .inl (mu_i Hs 80 6)], Hs)) (C := [mu_is Hs (some 80) 7]) rfl (show mu_is Hs (some 80) 7 from hps.1.is rfl) ?_
      refine mw_if (P := (mu_i Hs 80 6) = (10 : Int32)) (a := 278) (b := 69) (fun _ => rfl) trivial (fun h5 => ?_) (fun h5 => ?_)
      · -- 278: (mu_i Hs 80 6) = (10 : Int32)
        refine mw_go mu_g35 (k := 1) (f1 := (280, [(4, .inl y), (5, .inl (nI k)), (0, .inr (.inr (some 80)))], [.inl y], Hs)) (C := []) rfl trivial ?_
        refine mw_if (P := y = 0) (a := 283) (b := 299) (fun _ => rfl) trivial (fun h6 => absurd h6 h2) (fun _ => ?_)
        refine mw_go mu_g35 (k := 1) (f1 := (300, [(4, .inl y), (5, .inl (nI k)), (0, .inr (.inr (some 80)))], [.inr (.inr (some 80))], Hs)) (C := []) rfl trivial ?_
        refine mw_cV (fun _ => rfl) (show mu_is Hs (some 80) 7 from hps.1.is rfl) (pb_symbols (d := (d + 6)) (B := B) hps hP.ct.1 hP.ct.2) (fun H7 q7 => ?_)
        obtain ⟨hp7, qt7, qb7, qc7⟩ := q7
        have ht7 := hts.trans qt7
        refine mw_go mu_g35 (k := 1) (f1 := (304, [(4, .inl y), (5, .inl (nI k)), (0, .inr (.inr (some 80)))], [.inl (-1 : Int32)], H7)) (C := []) rfl trivial ?_
        exact mw_of (fun _ => mu_ret rfl trivial (hΦ _ H7 hp7 ht7 (by omega) (Or.inl ⟨rfl, qc7⟩)))
      · -- 69: not (mu_i Hs 80 6) = (10 : Int32)
        refine mw_go mu_g35 (k := 2) (f1 := (73, [(4, .inl y), (5, .inl (nI k)), (0, .inr (.inr (some 80)))], [.inl (mu_i Hs 80 6)], Hs)) (C := [mu_is Hs (some 80) 7]) rfl (show mu_is Hs (some 80) 7 from hps.1.is rfl) ?_
        refine mw_tsw2 rfl (by decide) (fun hx => ?_) ⟨fun z => ?_, fun z => ?_, fun z => ?_, fun z => ?_, fun z => ?_, fun z => ?_, fun z => ?_, fun z => ?_, fun z => ?_, fun z => ?_, trivial⟩
        · -- None: 266
          exact (PC.no hP h5 hx).elim
        · -- 0: 128
          have h9 : (mu_i Hs 80 6) = (0 : Int32) := Int32.toInt_inj.mp (z.trans (by decide))
          refine mw_go mu_g35 (k := 1) (f1 := (129, [(4, .inl y), (5, .inl (nI k)), (0, .inr (.inr (some 80)))], [.inr (.inr (some 80))], Hs)) (C := []) rfl trivial ?_
          refine mw_cI (fun _ => rfl) (show mu_is Hs (some 80) 7 from hps.1.is rfl) (pb_module (d := (d + 4)) (B := B) hps hBB (by omega) (PC.m0 hP h9).1 (PC.m0 hP h9).2.1 (PC.m0 hP h9).2.2) (fun x10 H10 q10 => ?_)
          rcases q10 with ⟨rfl, hp10, qt10, qb10⟩ | ⟨rfl, hp10, qt10, qb10, qp10⟩
          · -- (0 : Int32)
            have ht10 := hts.trans qt10
            have hc10 : ps_mp (mu_i Hs 80 6) = ps_mp (mu_i Hs 80 6) := congrArg ps_mp (show mu_i Hs 80 6 = (mu_i Hs 80 6) from rfl)
            refine mw_go mu_g35 (k := 4) (f1 := (48, [(5, .inl ((nI k) + 1)), (4, .inl (0 : Int32)), (0, .inr (.inr (some 80)))], [], H10)) (C := []) rfl trivial ?_
            have hk : ∀ j, False → mu_i H10 80 j = mu_i H 80 j := (fun _ hj => hj.elim)
            rw [nI_1]
            exact mw_sub (by simp) (ih ((0 : Int32), k + 1, H10) ⟨hp10, ht10, hk, (show ps_pot m H10 ≤ ps_pot m H + 60 from by omega), (show ¬ (0 : Int32) = 0 → ps_pot m H10 ≤ ps_pot m H from (fun z => absurd rfl z)), (show ¬ (0 : Int32) = 0 → PC m H10 from (fun z => absurd rfl z)), (show (k + 1) ≤ 524288 from by omega)⟩ (by show 524288 - (k + 1) < 524288 - k; omega))
          · -- (1 : Int32)
            have ht10 := hts.trans qt10
            have hc10 : ps_mp (mu_i Hs 80 6) = ps_mp (mu_i Hs 80 6) := congrArg ps_mp (show mu_i Hs 80 6 = (mu_i Hs 80 6) from rfl)
            refine mw_go mu_g35 (k := 4) (f1 := (48, [(5, .inl ((nI k) + 1)), (4, .inl (1 : Int32)), (0, .inr (.inr (some 80)))], [], H10)) (C := []) rfl trivial ?_
            have hk : ∀ j, False → mu_i H10 80 j = mu_i H 80 j := (fun _ hj => hj.elim)
            rw [nI_1]
            exact mw_sub (by simp) (ih ((1 : Int32), k + 1, H10) ⟨hp10, ht10, hk, (show ps_pot m H10 ≤ ps_pot m H + 60 from by omega), (show ¬ (1 : Int32) = 0 → ps_pot m H10 ≤ ps_pot m H from (fun _ => by omega)), (show ¬ (1 : Int32) = 0 → PC m H10 from (fun _ => qp10)), (show (k + 1) ≤ 524288 from by omega)⟩ (by show 524288 - (k + 1) < 524288 - k; omega))
        · -- 1: 230
          have h11 : (mu_i Hs 80 6) = (1 : Int32) := Int32.toInt_inj.mp (z.trans (by decide))
          refine mw_go mu_g35 (k := 1) (f1 := (231, [(4, .inl y), (5, .inl (nI k)), (0, .inr (.inr (some 80)))], [.inr (.inr (some 80))], Hs)) (C := []) rfl trivial ?_
          refine mw_cI (fun _ => rfl) (show mu_is Hs (some 80) 7 from hps.1.is rfl) (pb_section (d := (d + 3)) (B := B) hps hBB (by omega) (PC.ml hP h11 (by decide)).1 (PC.ml hP h11 (by decide)).2.1 (PC.ml hP h11 (by decide)).2.2) (fun x12 H12 q12 => ?_)
          rcases q12 with ⟨rfl, hp12, qt12, qb12⟩ | ⟨rfl, hp12, qt12, qb12, qp12⟩
          · -- (0 : Int32)
            have ht12 := hts.trans qt12
            have hc12 : ps_mp (mu_i Hs 80 6) = ps_mp (mu_i Hs 80 6) := congrArg ps_mp (show mu_i Hs 80 6 = (mu_i Hs 80 6) from rfl)
            refine mw_go mu_g35 (k := 4) (f1 := (48, [(5, .inl ((nI k) + 1)), (4, .inl (0 : Int32)), (0, .inr (.inr (some 80)))], [], H12)) (C := []) rfl trivial ?_
            have hk : ∀ j, False → mu_i H12 80 j = mu_i H 80 j := (fun _ hj => hj.elim)
            rw [nI_1]
            exact mw_sub (by simp) (ih ((0 : Int32), k + 1, H12) ⟨hp12, ht12, hk, (show ps_pot m H12 ≤ ps_pot m H + 60 from by omega), (show ¬ (0 : Int32) = 0 → ps_pot m H12 ≤ ps_pot m H from (fun z => absurd rfl z)), (show ¬ (0 : Int32) = 0 → PC m H12 from (fun z => absurd rfl z)), (show (k + 1) ≤ 524288 from by omega)⟩ (by show 524288 - (k + 1) < 524288 - k; omega))
          · -- (1 : Int32)
            have ht12 := hts.trans qt12
            have hc12 : ps_mp (mu_i Hs 80 6) = ps_mp (mu_i Hs 80 6) := congrArg ps_mp (show mu_i Hs 80 6 = (mu_i Hs 80 6) from rfl)
            refine mw_go mu_g35 (k := 4) (f1 := (48, [(5, .inl ((nI k) + 1)), (4, .inl (1 : Int32)), (0, .inr (.inr (some 80)))], [], H12)) (C := []) rfl trivial ?_
            have hk : ∀ j, False → mu_i H12 80 j = mu_i H 80 j := (fun _ hj => hj.elim)
            rw [nI_1]
            exact mw_sub (by simp) (ih ((1 : Int32), k + 1, H12) ⟨hp12, ht12, hk, (show ps_pot m H12 ≤ ps_pot m H + 60 from by omega), (show ¬ (1 : Int32) = 0 → ps_pot m H12 ≤ ps_pot m H from (fun _ => by omega)), (show ¬ (1 : Int32) = 0 → PC m H12 from (fun _ => qp12)), (show (k + 1) ≤ 524288 from by omega)⟩ (by show 524288 - (k + 1) < 524288 - k; omega))
        · -- 2: 137
          have h13 : (mu_i Hs 80 6) = (2 : Int32) := Int32.toInt_inj.mp (z.trans (by decide))
          refine mw_go mu_g35 (k := 3) (f1 := (143, [(4, .inl y), (5, .inl (nI k)), (0, .inr (.inr (some 80)))], [.inl (112 : Int32), .inl (mu_i Hs 80 4)], Hs)) (C := [mu_is Hs (some 80) 7]) rfl (show mu_is Hs (some 80) 7 from hps.1.is rfl) ?_
          refine mw_if (P := (mu_i Hs 80 4) = (112 : Int32)) (a := 146) (b := 153) (fun _ => rfl) trivial (fun h14 => ?_) (fun h14 => ?_)
          · -- 146: (mu_i Hs 80 4) = (112 : Int32)
            refine mw_go mu_g35 (k := 1) (f1 := (147, [(4, .inl y), (5, .inl (nI k)), (0, .inr (.inr (some 80)))], [.inr (.inr (some 80))], Hs)) (C := []) rfl trivial ?_
            refine mw_cI (fun _ => rfl) (show mu_is Hs (some 80) 7 from hps.1.is rfl) (pb_var (d := (d + 2)) (B := B) hps hBB (by omega) (PC.ml hP h13 (by decide)).1 (PC.ml hP h13 (by decide)).2.1 (PC.ml hP h13 (by decide)).2.2 h13 (show mu_i Hs 80 4 = 112 from h14)) (fun x15 H15 q15 => ?_)
            rcases q15 with ⟨rfl, hp15, qt15, qb15⟩ | ⟨rfl, hp15, qt15, qb15, qp15⟩
            · -- (0 : Int32)
              have ht15 := hts.trans qt15
              have hc15 : ps_mp (mu_i Hs 80 6) = ps_mp (mu_i Hs 80 6) := congrArg ps_mp (show mu_i Hs 80 6 = (mu_i Hs 80 6) from rfl)
              refine mw_go mu_g35 (k := 5) (f1 := (48, [(5, .inl ((nI k) + 1)), (4, .inl (0 : Int32)), (0, .inr (.inr (some 80)))], [], H15)) (C := []) rfl trivial ?_
              have hk : ∀ j, False → mu_i H15 80 j = mu_i H 80 j := (fun _ hj => hj.elim)
              rw [nI_1]
              exact mw_sub (by simp) (ih ((0 : Int32), k + 1, H15) ⟨hp15, ht15, hk, (show ps_pot m H15 ≤ ps_pot m H + 60 from by omega), (show ¬ (0 : Int32) = 0 → ps_pot m H15 ≤ ps_pot m H from (fun z => absurd rfl z)), (show ¬ (0 : Int32) = 0 → PC m H15 from (fun z => absurd rfl z)), (show (k + 1) ≤ 524288 from by omega)⟩ (by show 524288 - (k + 1) < 524288 - k; omega))
            · -- (1 : Int32)
              have ht15 := hts.trans qt15
              have hc15 : ps_mp (mu_i Hs 80 6) = ps_mp (mu_i Hs 80 6) := congrArg ps_mp (show mu_i Hs 80 6 = (mu_i Hs 80 6) from rfl)
              refine mw_go mu_g35 (k := 5) (f1 := (48, [(5, .inl ((nI k) + 1)), (4, .inl (1 : Int32)), (0, .inr (.inr (some 80)))], [], H15)) (C := []) rfl trivial ?_
              have hk : ∀ j, False → mu_i H15 80 j = mu_i H 80 j := (fun _ hj => hj.elim)
              rw [nI_1]
              exact mw_sub (by simp) (ih ((1 : Int32), k + 1, H15) ⟨hp15, ht15, hk, (show ps_pot m H15 ≤ ps_pot m H + 60 from by omega), (show ¬ (1 : Int32) = 0 → ps_pot m H15 ≤ ps_pot m H from (fun _ => by omega)), (show ¬ (1 : Int32) = 0 → PC m H15 from (fun _ => qp15)), (show (k + 1) ≤ 524288 from by omega)⟩ (by show 524288 - (k + 1) < 524288 - k; omega))
          · -- 153: not (mu_i Hs 80 4) = (112 : Int32)
            refine mw_go mu_g35 (k := 1) (f1 := (154, [(4, .inl y), (5, .inl (nI k)), (0, .inr (.inr (some 80)))], [.inr (.inr (some 80))], Hs)) (C := []) rfl trivial ?_
            refine mw_cI (fun _ => rfl) (show mu_is Hs (some 80) 7 from hps.1.is rfl) (pb_section (d := (d + 3)) (B := B) hps hBB (by omega) (PC.ml hP h13 (by decide)).1 (PC.ml hP h13 (by decide)).2.1 (PC.ml hP h13 (by decide)).2.2) (fun x16 H16 q16 => ?_)
            rcases q16 with ⟨rfl, hp16, qt16, qb16⟩ | ⟨rfl, hp16, qt16, qb16, qp16⟩
            · -- (0 : Int32)
              have ht16 := hts.trans qt16
              have hc16 : ps_mp (mu_i Hs 80 6) = ps_mp (mu_i Hs 80 6) := congrArg ps_mp (show mu_i Hs 80 6 = (mu_i Hs 80 6) from rfl)
              refine mw_go mu_g35 (k := 4) (f1 := (48, [(5, .inl ((nI k) + 1)), (4, .inl (0 : Int32)), (0, .inr (.inr (some 80)))], [], H16)) (C := []) rfl trivial ?_
              have hk : ∀ j, False → mu_i H16 80 j = mu_i H 80 j := (fun _ hj => hj.elim)
              rw [nI_1]
              exact mw_sub (by simp) (ih ((0 : Int32), k + 1, H16) ⟨hp16, ht16, hk, (show ps_pot m H16 ≤ ps_pot m H + 60 from by omega), (show ¬ (0 : Int32) = 0 → ps_pot m H16 ≤ ps_pot m H from (fun z => absurd rfl z)), (show ¬ (0 : Int32) = 0 → PC m H16 from (fun z => absurd rfl z)), (show (k + 1) ≤ 524288 from by omega)⟩ (by show 524288 - (k + 1) < 524288 - k; omega))
            · -- (1 : Int32)
              have ht16 := hts.trans qt16
              have hc16 : ps_mp (mu_i Hs 80 6) = ps_mp (mu_i Hs 80 6) := congrArg ps_mp (show mu_i Hs 80 6 = (mu_i Hs 80 6) from rfl)
              refine mw_go mu_g35 (k := 4) (f1 := (48, [(5, .inl ((nI k) + 1)), (4, .inl (1 : Int32)), (0, .inr (.inr (some 80)))], [], H16)) (C := []) rfl trivial ?_
              have hk : ∀ j, False → mu_i H16 80 j = mu_i H 80 j := (fun _ hj => hj.elim)
              rw [nI_1]
              exact mw_sub (by simp) (ih ((1 : Int32), k + 1, H16) ⟨hp16, ht16, hk, (show ps_pot m H16 ≤ ps_pot m H + 60 from by omega), (show ¬ (1 : Int32) = 0 → ps_pot m H16 ≤ ps_pot m H from (fun _ => by omega)), (show ¬ (1 : Int32) = 0 → PC m H16 from (fun _ => qp16)), (show (k + 1) ≤ 524288 from by omega)⟩ (by show 524288 - (k + 1) < 524288 - k; omega))
        · -- 3: 162
          have h17 : (mu_i Hs 80 6) = (3 : Int32) := Int32.toInt_inj.mp (z.trans (by decide))
          refine mw_go mu_g35 (k := 3) (f1 := (168, [(4, .inl y), (5, .inl (nI k)), (0, .inr (.inr (some 80)))], [.inl (112 : Int32), .inl (mu_i Hs 80 4)], Hs)) (C := [mu_is Hs (some 80) 7]) rfl (show mu_is Hs (some 80) 7 from hps.1.is rfl) ?_
          refine mw_if (P := (mu_i Hs 80 4) = (112 : Int32)) (a := 171) (b := 178) (fun _ => rfl) trivial (fun h18 => ?_) (fun h18 => ?_)
          · -- 171: (mu_i Hs 80 4) = (112 : Int32)
            refine mw_go mu_g35 (k := 1) (f1 := (172, [(4, .inl y), (5, .inl (nI k)), (0, .inr (.inr (some 80)))], [.inr (.inr (some 80))], Hs)) (C := []) rfl trivial ?_
            refine mw_cI (fun _ => rfl) (show mu_is Hs (some 80) 7 from hps.1.is rfl) (pb_def (d := (d + 3)) (B := B) hps hBB (by omega) (PC.ml hP h17 (by decide)).1 (PC.ml hP h17 (by decide)).2.1 (PC.ml hP h17 (by decide)).2.2 (show mu_i Hs 80 4 = 112 from h18)) (fun x19 H19 q19 => ?_)
            rcases q19 with ⟨rfl, hp19, qt19, qb19⟩ | ⟨rfl, hp19, qt19, qb19, qp19⟩
            · -- (0 : Int32)
              have ht19 := hts.trans qt19
              have hc19 : ps_mp (mu_i Hs 80 6) = ps_mp (mu_i Hs 80 6) := congrArg ps_mp (show mu_i Hs 80 6 = (mu_i Hs 80 6) from rfl)
              refine mw_go mu_g35 (k := 5) (f1 := (48, [(5, .inl ((nI k) + 1)), (4, .inl (0 : Int32)), (0, .inr (.inr (some 80)))], [], H19)) (C := []) rfl trivial ?_
              have hk : ∀ j, False → mu_i H19 80 j = mu_i H 80 j := (fun _ hj => hj.elim)
              rw [nI_1]
              exact mw_sub (by simp) (ih ((0 : Int32), k + 1, H19) ⟨hp19, ht19, hk, (show ps_pot m H19 ≤ ps_pot m H + 60 from by omega), (show ¬ (0 : Int32) = 0 → ps_pot m H19 ≤ ps_pot m H from (fun z => absurd rfl z)), (show ¬ (0 : Int32) = 0 → PC m H19 from (fun z => absurd rfl z)), (show (k + 1) ≤ 524288 from by omega)⟩ (by show 524288 - (k + 1) < 524288 - k; omega))
            · -- (1 : Int32)
              have ht19 := hts.trans qt19
              have hc19 : ps_mp (mu_i Hs 80 6) = ps_mp (mu_i Hs 80 6) := congrArg ps_mp (show mu_i Hs 80 6 = (mu_i Hs 80 6) from rfl)
              refine mw_go mu_g35 (k := 5) (f1 := (48, [(5, .inl ((nI k) + 1)), (4, .inl (1 : Int32)), (0, .inr (.inr (some 80)))], [], H19)) (C := []) rfl trivial ?_
              have hk : ∀ j, False → mu_i H19 80 j = mu_i H 80 j := (fun _ hj => hj.elim)
              rw [nI_1]
              exact mw_sub (by simp) (ih ((1 : Int32), k + 1, H19) ⟨hp19, ht19, hk, (show ps_pot m H19 ≤ ps_pot m H + 60 from by omega), (show ¬ (1 : Int32) = 0 → ps_pot m H19 ≤ ps_pot m H from (fun _ => by omega)), (show ¬ (1 : Int32) = 0 → PC m H19 from (fun _ => qp19)), (show (k + 1) ≤ 524288 from by omega)⟩ (by show 524288 - (k + 1) < 524288 - k; omega))
          · -- 178: not (mu_i Hs 80 4) = (112 : Int32)
            refine mw_go mu_g35 (k := 1) (f1 := (179, [(4, .inl y), (5, .inl (nI k)), (0, .inr (.inr (some 80)))], [.inr (.inr (some 80))], Hs)) (C := []) rfl trivial ?_
            refine mw_cI (fun _ => rfl) (show mu_is Hs (some 80) 7 from hps.1.is rfl) (pb_section (d := (d + 3)) (B := B) hps hBB (by omega) (PC.ml hP h17 (by decide)).1 (PC.ml hP h17 (by decide)).2.1 (PC.ml hP h17 (by decide)).2.2) (fun x20 H20 q20 => ?_)
            rcases q20 with ⟨rfl, hp20, qt20, qb20⟩ | ⟨rfl, hp20, qt20, qb20, qp20⟩
            · -- (0 : Int32)
              have ht20 := hts.trans qt20
              have hc20 : ps_mp (mu_i Hs 80 6) = ps_mp (mu_i Hs 80 6) := congrArg ps_mp (show mu_i Hs 80 6 = (mu_i Hs 80 6) from rfl)
              refine mw_go mu_g35 (k := 4) (f1 := (48, [(5, .inl ((nI k) + 1)), (4, .inl (0 : Int32)), (0, .inr (.inr (some 80)))], [], H20)) (C := []) rfl trivial ?_
              have hk : ∀ j, False → mu_i H20 80 j = mu_i H 80 j := (fun _ hj => hj.elim)
              rw [nI_1]
              exact mw_sub (by simp) (ih ((0 : Int32), k + 1, H20) ⟨hp20, ht20, hk, (show ps_pot m H20 ≤ ps_pot m H + 60 from by omega), (show ¬ (0 : Int32) = 0 → ps_pot m H20 ≤ ps_pot m H from (fun z => absurd rfl z)), (show ¬ (0 : Int32) = 0 → PC m H20 from (fun z => absurd rfl z)), (show (k + 1) ≤ 524288 from by omega)⟩ (by show 524288 - (k + 1) < 524288 - k; omega))
            · -- (1 : Int32)
              have ht20 := hts.trans qt20
              have hc20 : ps_mp (mu_i Hs 80 6) = ps_mp (mu_i Hs 80 6) := congrArg ps_mp (show mu_i Hs 80 6 = (mu_i Hs 80 6) from rfl)
              refine mw_go mu_g35 (k := 4) (f1 := (48, [(5, .inl ((nI k) + 1)), (4, .inl (1 : Int32)), (0, .inr (.inr (some 80)))], [], H20)) (C := []) rfl trivial ?_
              have hk : ∀ j, False → mu_i H20 80 j = mu_i H 80 j := (fun _ hj => hj.elim)
              rw [nI_1]
              exact mw_sub (by simp) (ih ((1 : Int32), k + 1, H20) ⟨hp20, ht20, hk, (show ps_pot m H20 ≤ ps_pot m H + 60 from by omega), (show ¬ (1 : Int32) = 0 → ps_pot m H20 ≤ ps_pot m H from (fun _ => by omega)), (show ¬ (1 : Int32) = 0 → PC m H20 from (fun _ => qp20)), (show (k + 1) ≤ 524288 from by omega)⟩ (by show 524288 - (k + 1) < 524288 - k; omega))
        · -- 4: 187
          have h21 : (mu_i Hs 80 6) = (4 : Int32) := Int32.toInt_inj.mp (z.trans (by decide))
          refine mw_go mu_g35 (k := 3) (f1 := (193, [(4, .inl y), (5, .inl (nI k)), (0, .inr (.inr (some 80)))], [.inl (112 : Int32), .inl (mu_i Hs 80 4)], Hs)) (C := [mu_is Hs (some 80) 7]) rfl (show mu_is Hs (some 80) 7 from hps.1.is rfl) ?_
          refine mw_if (P := (mu_i Hs 80 4) = (112 : Int32)) (a := 214) (b := 196) (fun _ => rfl) trivial (fun h22 => ?_) (fun h22 => ?_)
          · -- 214: (mu_i Hs 80 4) = (112 : Int32)
            refine mw_go mu_g35 (k := 1) (f1 := (215, [(4, .inl y), (5, .inl (nI k)), (0, .inr (.inr (some 80)))], [.inr (.inr (some 80))], Hs)) (C := []) rfl trivial ?_
            refine mw_cI (fun _ => rfl) (show mu_is Hs (some 80) 7 from hps.1.is rfl) (pb_line (d := (d + 3)) (B := B) hps hBB (by omega) (PC.ml hP h21 (by decide)).1 (PC.ml hP h21 (by decide)).2.1 (PC.ml hP h21 (by decide)).2.2) (fun x23 H23 q23 => ?_)
            rcases q23 with ⟨rfl, hp23, qt23, qb23⟩ | ⟨rfl, hp23, qt23, qb23, qp23⟩
            · -- (0 : Int32)
              have ht23 := hts.trans qt23
              have hc23 : ps_mp (mu_i Hs 80 6) = ps_mp (mu_i Hs 80 6) := congrArg ps_mp (show mu_i Hs 80 6 = (mu_i Hs 80 6) from rfl)
              refine mw_go mu_g35 (k := 5) (f1 := (48, [(5, .inl ((nI k) + 1)), (4, .inl (0 : Int32)), (0, .inr (.inr (some 80)))], [], H23)) (C := []) rfl trivial ?_
              have hk : ∀ j, False → mu_i H23 80 j = mu_i H 80 j := (fun _ hj => hj.elim)
              rw [nI_1]
              exact mw_sub (by simp) (ih ((0 : Int32), k + 1, H23) ⟨hp23, ht23, hk, (show ps_pot m H23 ≤ ps_pot m H + 60 from by omega), (show ¬ (0 : Int32) = 0 → ps_pot m H23 ≤ ps_pot m H from (fun z => absurd rfl z)), (show ¬ (0 : Int32) = 0 → PC m H23 from (fun z => absurd rfl z)), (show (k + 1) ≤ 524288 from by omega)⟩ (by show 524288 - (k + 1) < 524288 - k; omega))
            · -- (1 : Int32)
              have ht23 := hts.trans qt23
              have hc23 : ps_mp (mu_i Hs 80 6) = ps_mp (mu_i Hs 80 6) := congrArg ps_mp (show mu_i Hs 80 6 = (mu_i Hs 80 6) from rfl)
              refine mw_go mu_g35 (k := 5) (f1 := (48, [(5, .inl ((nI k) + 1)), (4, .inl (1 : Int32)), (0, .inr (.inr (some 80)))], [], H23)) (C := []) rfl trivial ?_
              have hk : ∀ j, False → mu_i H23 80 j = mu_i H 80 j := (fun _ hj => hj.elim)
              rw [nI_1]
              exact mw_sub (by simp) (ih ((1 : Int32), k + 1, H23) ⟨hp23, ht23, hk, (show ps_pot m H23 ≤ ps_pot m H + 60 from by omega), (show ¬ (1 : Int32) = 0 → ps_pot m H23 ≤ ps_pot m H from (fun _ => by omega)), (show ¬ (1 : Int32) = 0 → PC m H23 from (fun _ => qp23)), (show (k + 1) ≤ 524288 from by omega)⟩ (by show 524288 - (k + 1) < 524288 - k; omega))
          · -- 196: not (mu_i Hs 80 4) = (112 : Int32)
            refine mw_go mu_g35 (k := 3) (f1 := (202, [(4, .inl y), (5, .inl (nI k)), (0, .inr (.inr (some 80)))], [.inl (9 : Int32), .inl (mu_i Hs 80 4)], Hs)) (C := [mu_is Hs (some 80) 7]) rfl (show mu_is Hs (some 80) 7 from hps.1.is rfl) ?_
            refine mw_if (P := (mu_i Hs 80 4) = (9 : Int32)) (a := 214) (b := 205) (fun _ => rfl) trivial (fun h24 => ?_) (fun h24 => ?_)
            · -- 214: (mu_i Hs 80 4) = (9 : Int32)
              refine mw_go mu_g35 (k := 1) (f1 := (215, [(4, .inl y), (5, .inl (nI k)), (0, .inr (.inr (some 80)))], [.inr (.inr (some 80))], Hs)) (C := []) rfl trivial ?_
              refine mw_cI (fun _ => rfl) (show mu_is Hs (some 80) 7 from hps.1.is rfl) (pb_line (d := (d + 3)) (B := B) hps hBB (by omega) (PC.ml hP h21 (by decide)).1 (PC.ml hP h21 (by decide)).2.1 (PC.ml hP h21 (by decide)).2.2) (fun x25 H25 q25 => ?_)
              rcases q25 with ⟨rfl, hp25, qt25, qb25⟩ | ⟨rfl, hp25, qt25, qb25, qp25⟩
              · -- (0 : Int32)
                have ht25 := hts.trans qt25
                have hc25 : ps_mp (mu_i Hs 80 6) = ps_mp (mu_i Hs 80 6) := congrArg ps_mp (show mu_i Hs 80 6 = (mu_i Hs 80 6) from rfl)
                refine mw_go mu_g35 (k := 5) (f1 := (48, [(5, .inl ((nI k) + 1)), (4, .inl (0 : Int32)), (0, .inr (.inr (some 80)))], [], H25)) (C := []) rfl trivial ?_
                have hk : ∀ j, False → mu_i H25 80 j = mu_i H 80 j := (fun _ hj => hj.elim)
                rw [nI_1]
                exact mw_sub (by simp) (ih ((0 : Int32), k + 1, H25) ⟨hp25, ht25, hk, (show ps_pot m H25 ≤ ps_pot m H + 60 from by omega), (show ¬ (0 : Int32) = 0 → ps_pot m H25 ≤ ps_pot m H from (fun z => absurd rfl z)), (show ¬ (0 : Int32) = 0 → PC m H25 from (fun z => absurd rfl z)), (show (k + 1) ≤ 524288 from by omega)⟩ (by show 524288 - (k + 1) < 524288 - k; omega))
              · -- (1 : Int32)
                have ht25 := hts.trans qt25
                have hc25 : ps_mp (mu_i Hs 80 6) = ps_mp (mu_i Hs 80 6) := congrArg ps_mp (show mu_i Hs 80 6 = (mu_i Hs 80 6) from rfl)
                refine mw_go mu_g35 (k := 5) (f1 := (48, [(5, .inl ((nI k) + 1)), (4, .inl (1 : Int32)), (0, .inr (.inr (some 80)))], [], H25)) (C := []) rfl trivial ?_
                have hk : ∀ j, False → mu_i H25 80 j = mu_i H 80 j := (fun _ hj => hj.elim)
                rw [nI_1]
                exact mw_sub (by simp) (ih ((1 : Int32), k + 1, H25) ⟨hp25, ht25, hk, (show ps_pot m H25 ≤ ps_pot m H + 60 from by omega), (show ¬ (1 : Int32) = 0 → ps_pot m H25 ≤ ps_pot m H from (fun _ => by omega)), (show ¬ (1 : Int32) = 0 → PC m H25 from (fun _ => qp25)), (show (k + 1) ≤ 524288 from by omega)⟩ (by show 524288 - (k + 1) < 524288 - k; omega))
            · -- 205: not (mu_i Hs 80 4) = (9 : Int32)
              refine mw_go mu_g35 (k := 3) (f1 := (211, [(4, .inl y), (5, .inl (nI k)), (0, .inr (.inr (some 80)))], [.inl (10 : Int32), .inl (mu_i Hs 80 4)], Hs)) (C := [mu_is Hs (some 80) 7]) rfl (show mu_is Hs (some 80) 7 from hps.1.is rfl) ?_
              refine mw_if (P := (mu_i Hs 80 4) = (10 : Int32)) (a := 214) (b := 221) (fun _ => rfl) trivial (fun h26 => ?_) (fun h26 => ?_)
              · -- 214: (mu_i Hs 80 4) = (10 : Int32)
                refine mw_go mu_g35 (k := 1) (f1 := (215, [(4, .inl y), (5, .inl (nI k)), (0, .inr (.inr (some 80)))], [.inr (.inr (some 80))], Hs)) (C := []) rfl trivial ?_
                refine mw_cI (fun _ => rfl) (show mu_is Hs (some 80) 7 from hps.1.is rfl) (pb_line (d := (d + 3)) (B := B) hps hBB (by omega) (PC.ml hP h21 (by decide)).1 (PC.ml hP h21 (by decide)).2.1 (PC.ml hP h21 (by decide)).2.2) (fun x27 H27 q27 => ?_)
                rcases q27 with ⟨rfl, hp27, qt27, qb27⟩ | ⟨rfl, hp27, qt27, qb27, qp27⟩
                · -- (0 : Int32)
                  have ht27 := hts.trans qt27
                  have hc27 : ps_mp (mu_i Hs 80 6) = ps_mp (mu_i Hs 80 6) := congrArg ps_mp (show mu_i Hs 80 6 = (mu_i Hs 80 6) from rfl)
                  refine mw_go mu_g35 (k := 5) (f1 := (48, [(5, .inl ((nI k) + 1)), (4, .inl (0 : Int32)), (0, .inr (.inr (some 80)))], [], H27)) (C := []) rfl trivial ?_
                  have hk : ∀ j, False → mu_i H27 80 j = mu_i H 80 j := (fun _ hj => hj.elim)
                  rw [nI_1]
                  exact mw_sub (by simp) (ih ((0 : Int32), k + 1, H27) ⟨hp27, ht27, hk, (show ps_pot m H27 ≤ ps_pot m H + 60 from by omega), (show ¬ (0 : Int32) = 0 → ps_pot m H27 ≤ ps_pot m H from (fun z => absurd rfl z)), (show ¬ (0 : Int32) = 0 → PC m H27 from (fun z => absurd rfl z)), (show (k + 1) ≤ 524288 from by omega)⟩ (by show 524288 - (k + 1) < 524288 - k; omega))
                · -- (1 : Int32)
                  have ht27 := hts.trans qt27
                  have hc27 : ps_mp (mu_i Hs 80 6) = ps_mp (mu_i Hs 80 6) := congrArg ps_mp (show mu_i Hs 80 6 = (mu_i Hs 80 6) from rfl)
                  refine mw_go mu_g35 (k := 5) (f1 := (48, [(5, .inl ((nI k) + 1)), (4, .inl (1 : Int32)), (0, .inr (.inr (some 80)))], [], H27)) (C := []) rfl trivial ?_
                  have hk : ∀ j, False → mu_i H27 80 j = mu_i H 80 j := (fun _ hj => hj.elim)
                  rw [nI_1]
                  exact mw_sub (by simp) (ih ((1 : Int32), k + 1, H27) ⟨hp27, ht27, hk, (show ps_pot m H27 ≤ ps_pot m H + 60 from by omega), (show ¬ (1 : Int32) = 0 → ps_pot m H27 ≤ ps_pot m H from (fun _ => by omega)), (show ¬ (1 : Int32) = 0 → PC m H27 from (fun _ => qp27)), (show (k + 1) ≤ 524288 from by omega)⟩ (by show 524288 - (k + 1) < 524288 - k; omega))
              · -- 221: not (mu_i Hs 80 4) = (10 : Int32)
                refine mw_go mu_g35 (k := 1) (f1 := (222, [(4, .inl y), (5, .inl (nI k)), (0, .inr (.inr (some 80)))], [.inr (.inr (some 80))], Hs)) (C := []) rfl trivial ?_
                refine mw_cI (fun _ => rfl) (show mu_is Hs (some 80) 7 from hps.1.is rfl) (pb_section (d := (d + 3)) (B := B) hps hBB (by omega) (PC.ml hP h21 (by decide)).1 (PC.ml hP h21 (by decide)).2.1 (PC.ml hP h21 (by decide)).2.2) (fun x28 H28 q28 => ?_)
                rcases q28 with ⟨rfl, hp28, qt28, qb28⟩ | ⟨rfl, hp28, qt28, qb28, qp28⟩
                · -- (0 : Int32)
                  have ht28 := hts.trans qt28
                  have hc28 : ps_mp (mu_i Hs 80 6) = ps_mp (mu_i Hs 80 6) := congrArg ps_mp (show mu_i Hs 80 6 = (mu_i Hs 80 6) from rfl)
                  refine mw_go mu_g35 (k := 4) (f1 := (48, [(5, .inl ((nI k) + 1)), (4, .inl (0 : Int32)), (0, .inr (.inr (some 80)))], [], H28)) (C := []) rfl trivial ?_
                  have hk : ∀ j, False → mu_i H28 80 j = mu_i H 80 j := (fun _ hj => hj.elim)
                  rw [nI_1]
                  exact mw_sub (by simp) (ih ((0 : Int32), k + 1, H28) ⟨hp28, ht28, hk, (show ps_pot m H28 ≤ ps_pot m H + 60 from by omega), (show ¬ (0 : Int32) = 0 → ps_pot m H28 ≤ ps_pot m H from (fun z => absurd rfl z)), (show ¬ (0 : Int32) = 0 → PC m H28 from (fun z => absurd rfl z)), (show (k + 1) ≤ 524288 from by omega)⟩ (by show 524288 - (k + 1) < 524288 - k; omega))
                · -- (1 : Int32)
                  have ht28 := hts.trans qt28
                  have hc28 : ps_mp (mu_i Hs 80 6) = ps_mp (mu_i Hs 80 6) := congrArg ps_mp (show mu_i Hs 80 6 = (mu_i Hs 80 6) from rfl)
                  refine mw_go mu_g35 (k := 4) (f1 := (48, [(5, .inl ((nI k) + 1)), (4, .inl (1 : Int32)), (0, .inr (.inr (some 80)))], [], H28)) (C := []) rfl trivial ?_
                  have hk : ∀ j, False → mu_i H28 80 j = mu_i H 80 j := (fun _ hj => hj.elim)
                  rw [nI_1]
                  exact mw_sub (by simp) (ih ((1 : Int32), k + 1, H28) ⟨hp28, ht28, hk, (show ps_pot m H28 ≤ ps_pot m H + 60 from by omega), (show ¬ (1 : Int32) = 0 → ps_pot m H28 ≤ ps_pot m H from (fun _ => by omega)), (show ¬ (1 : Int32) = 0 → PC m H28 from (fun _ => qp28)), (show (k + 1) ≤ 524288 from by omega)⟩ (by show 524288 - (k + 1) < 524288 - k; omega))
        · -- 5: 266
          have h29 : (mu_i Hs 80 6) = (5 : Int32) := Int32.toInt_inj.mp (z.trans (by decide))
          refine mw_go mu_g35 (k := 1) (f1 := (267, [(4, .inl y), (5, .inl (nI k)), (0, .inr (.inr (some 80)))], [.inr (.inr (some 80))], Hs)) (C := []) rfl trivial ?_
          obtain ⟨f, hfr, hy⟩ := PC.m5 hP h29 (by decide)
          refine mw_cI (fun _ => rfl) (show mu_is Hs (some 80) 7 from hps.1.is rfl) (pb_operand (d := (d + 1)) (B := B) hps hBB (by omega) hfr hy) (fun x30 H30 q30 => ?_)
          rcases q30 with ⟨rfl, hp30, qt30, qb30⟩ | ⟨rfl, hp30, qt30, qb30, qp30⟩
          · -- (0 : Int32)
            have ht30 := hts.trans qt30
            have hc30 : ps_mp (mu_i Hs 80 6) = ps_mp (mu_i Hs 80 6) := congrArg ps_mp (show mu_i Hs 80 6 = (mu_i Hs 80 6) from rfl)
            refine mw_go mu_g35 (k := 3) (f1 := (48, [(5, .inl ((nI k) + 1)), (4, .inl (0 : Int32)), (0, .inr (.inr (some 80)))], [], H30)) (C := []) rfl trivial ?_
            have hk : ∀ j, False → mu_i H30 80 j = mu_i H 80 j := (fun _ hj => hj.elim)
            rw [nI_1]
            exact mw_sub (by simp) (ih ((0 : Int32), k + 1, H30) ⟨hp30, ht30, hk, (show ps_pot m H30 ≤ ps_pot m H + 60 from by omega), (show ¬ (0 : Int32) = 0 → ps_pot m H30 ≤ ps_pot m H from (fun z => absurd rfl z)), (show ¬ (0 : Int32) = 0 → PC m H30 from (fun z => absurd rfl z)), (show (k + 1) ≤ 524288 from by omega)⟩ (by show 524288 - (k + 1) < 524288 - k; omega))
          · -- (1 : Int32)
            have ht30 := hts.trans qt30
            have hc30 : ps_mp (mu_i Hs 80 6) = ps_mp (mu_i Hs 80 6) := congrArg ps_mp (show mu_i Hs 80 6 = (mu_i Hs 80 6) from rfl)
            refine mw_go mu_g35 (k := 3) (f1 := (48, [(5, .inl ((nI k) + 1)), (4, .inl (1 : Int32)), (0, .inr (.inr (some 80)))], [], H30)) (C := []) rfl trivial ?_
            have hk : ∀ j, False → mu_i H30 80 j = mu_i H 80 j := (fun _ hj => hj.elim)
            rw [nI_1]
            exact mw_sub (by simp) (ih ((1 : Int32), k + 1, H30) ⟨hp30, ht30, hk, (show ps_pot m H30 ≤ ps_pot m H + 60 from by omega), (show ¬ (1 : Int32) = 0 → ps_pot m H30 ≤ ps_pot m H from (fun _ => by omega)), (show ¬ (1 : Int32) = 0 → PC m H30 from (fun _ => qp30)), (show (k + 1) ≤ 524288 from by omega)⟩ (by show 524288 - (k + 1) < 524288 - k; omega))
        · -- 6: 266
          have h31 : (mu_i Hs 80 6) = (6 : Int32) := Int32.toInt_inj.mp (z.trans (by decide))
          refine mw_go mu_g35 (k := 1) (f1 := (267, [(4, .inl y), (5, .inl (nI k)), (0, .inr (.inr (some 80)))], [.inr (.inr (some 80))], Hs)) (C := []) rfl trivial ?_
          obtain ⟨f, hfr, hy⟩ := PC.m5 hP h31 (by decide)
          refine mw_cI (fun _ => rfl) (show mu_is Hs (some 80) 7 from hps.1.is rfl) (pb_operand (d := (d + 1)) (B := B) hps hBB (by omega) hfr hy) (fun x32 H32 q32 => ?_)
          rcases q32 with ⟨rfl, hp32, qt32, qb32⟩ | ⟨rfl, hp32, qt32, qb32, qp32⟩
          · -- (0 : Int32)
            have ht32 := hts.trans qt32
            have hc32 : ps_mp (mu_i Hs 80 6) = ps_mp (mu_i Hs 80 6) := congrArg ps_mp (show mu_i Hs 80 6 = (mu_i Hs 80 6) from rfl)
            refine mw_go mu_g35 (k := 3) (f1 := (48, [(5, .inl ((nI k) + 1)), (4, .inl (0 : Int32)), (0, .inr (.inr (some 80)))], [], H32)) (C := []) rfl trivial ?_
            have hk : ∀ j, False → mu_i H32 80 j = mu_i H 80 j := (fun _ hj => hj.elim)
            rw [nI_1]
            exact mw_sub (by simp) (ih ((0 : Int32), k + 1, H32) ⟨hp32, ht32, hk, (show ps_pot m H32 ≤ ps_pot m H + 60 from by omega), (show ¬ (0 : Int32) = 0 → ps_pot m H32 ≤ ps_pot m H from (fun z => absurd rfl z)), (show ¬ (0 : Int32) = 0 → PC m H32 from (fun z => absurd rfl z)), (show (k + 1) ≤ 524288 from by omega)⟩ (by show 524288 - (k + 1) < 524288 - k; omega))
          · -- (1 : Int32)
            have ht32 := hts.trans qt32
            have hc32 : ps_mp (mu_i Hs 80 6) = ps_mp (mu_i Hs 80 6) := congrArg ps_mp (show mu_i Hs 80 6 = (mu_i Hs 80 6) from rfl)
            refine mw_go mu_g35 (k := 3) (f1 := (48, [(5, .inl ((nI k) + 1)), (4, .inl (1 : Int32)), (0, .inr (.inr (some 80)))], [], H32)) (C := []) rfl trivial ?_
            have hk : ∀ j, False → mu_i H32 80 j = mu_i H 80 j := (fun _ hj => hj.elim)
            rw [nI_1]
            exact mw_sub (by simp) (ih ((1 : Int32), k + 1, H32) ⟨hp32, ht32, hk, (show ps_pot m H32 ≤ ps_pot m H + 60 from by omega), (show ¬ (1 : Int32) = 0 → ps_pot m H32 ≤ ps_pot m H from (fun _ => by omega)), (show ¬ (1 : Int32) = 0 → PC m H32 from (fun _ => qp32)), (show (k + 1) ≤ 524288 from by omega)⟩ (by show 524288 - (k + 1) < 524288 - k; omega))
        · -- 7: 257
          have h33 : (mu_i Hs 80 6) = (7 : Int32) := Int32.toInt_inj.mp (z.trans (by decide))
          refine mw_go mu_g35 (k := 1) (f1 := (258, [(4, .inl y), (5, .inl (nI k)), (0, .inr (.inr (some 80)))], [.inr (.inr (some 80))], Hs)) (C := []) rfl trivial ?_
          obtain ⟨f, hfr, hy⟩ := PC.m7 hP h33
          refine mw_cI (fun _ => rfl) (show mu_is Hs (some 80) 7 from hps.1.is rfl) (pb_choice (d := (d + 4)) (B := B) hps hBB (by omega) hfr hy h33) (fun x34 H34 q34 => ?_)
          rcases q34 with ⟨rfl, hp34, qt34, qb34⟩ | ⟨rfl, hp34, qt34, qb34, qp34⟩
          · -- (0 : Int32)
            have ht34 := hts.trans qt34
            have hc34 : ps_mp (mu_i Hs 80 6) = ps_mp (mu_i Hs 80 6) := congrArg ps_mp (show mu_i Hs 80 6 = (mu_i Hs 80 6) from rfl)
            refine mw_go mu_g35 (k := 4) (f1 := (48, [(5, .inl ((nI k) + 1)), (4, .inl (0 : Int32)), (0, .inr (.inr (some 80)))], [], H34)) (C := []) rfl trivial ?_
            have hk : ∀ j, False → mu_i H34 80 j = mu_i H 80 j := (fun _ hj => hj.elim)
            rw [nI_1]
            exact mw_sub (by simp) (ih ((0 : Int32), k + 1, H34) ⟨hp34, ht34, hk, (show ps_pot m H34 ≤ ps_pot m H + 60 from by omega), (show ¬ (0 : Int32) = 0 → ps_pot m H34 ≤ ps_pot m H from (fun z => absurd rfl z)), (show ¬ (0 : Int32) = 0 → PC m H34 from (fun z => absurd rfl z)), (show (k + 1) ≤ 524288 from by omega)⟩ (by show 524288 - (k + 1) < 524288 - k; omega))
          · -- (1 : Int32)
            have ht34 := hts.trans qt34
            have hc34 : ps_mp (mu_i Hs 80 6) = ps_mp (mu_i Hs 80 6) := congrArg ps_mp (show mu_i Hs 80 6 = (mu_i Hs 80 6) from rfl)
            refine mw_go mu_g35 (k := 4) (f1 := (48, [(5, .inl ((nI k) + 1)), (4, .inl (1 : Int32)), (0, .inr (.inr (some 80)))], [], H34)) (C := []) rfl trivial ?_
            have hk : ∀ j, False → mu_i H34 80 j = mu_i H 80 j := (fun _ hj => hj.elim)
            rw [nI_1]
            exact mw_sub (by simp) (ih ((1 : Int32), k + 1, H34) ⟨hp34, ht34, hk, (show ps_pot m H34 ≤ ps_pot m H + 60 from by omega), (show ¬ (1 : Int32) = 0 → ps_pot m H34 ≤ ps_pot m H from (fun _ => by omega)), (show ¬ (1 : Int32) = 0 → PC m H34 from (fun _ => qp34)), (show (k + 1) ≤ 524288 from by omega)⟩ (by show 524288 - (k + 1) < 524288 - k; omega))
        · -- 8: 239
          have h35 : (mu_i Hs 80 6) = (8 : Int32) := Int32.toInt_inj.mp (z.trans (by decide))
          refine mw_go mu_g35 (k := 1) (f1 := (240, [(4, .inl y), (5, .inl (nI k)), (0, .inr (.inr (some 80)))], [.inr (.inr (some 80))], Hs)) (C := []) rfl trivial ?_
          obtain ⟨f, hfr, hy⟩ := PC.m8 hP h35
          refine mw_cI (fun _ => rfl) (show mu_is Hs (some 80) 7 from hps.1.is rfl) (pb_operator (d := d) (B := B) hps hBB (by omega) hfr hy h35) (fun x36 H36 q36 => ?_)
          rcases q36 with ⟨rfl, hp36, qt36, qb36⟩ | ⟨rfl, hp36, qt36, qb36, qp36⟩
          · -- (0 : Int32)
            have ht36 := hts.trans qt36
            have hc36 : ps_mp (mu_i Hs 80 6) = ps_mp (mu_i Hs 80 6) := congrArg ps_mp (show mu_i Hs 80 6 = (mu_i Hs 80 6) from rfl)
            refine mw_go mu_g35 (k := 4) (f1 := (48, [(5, .inl ((nI k) + 1)), (4, .inl (0 : Int32)), (0, .inr (.inr (some 80)))], [], H36)) (C := []) rfl trivial ?_
            have hk : ∀ j, False → mu_i H36 80 j = mu_i H 80 j := (fun _ hj => hj.elim)
            rw [nI_1]
            exact mw_sub (by simp) (ih ((0 : Int32), k + 1, H36) ⟨hp36, ht36, hk, (show ps_pot m H36 ≤ ps_pot m H + 60 from by omega), (show ¬ (0 : Int32) = 0 → ps_pot m H36 ≤ ps_pot m H from (fun z => absurd rfl z)), (show ¬ (0 : Int32) = 0 → PC m H36 from (fun z => absurd rfl z)), (show (k + 1) ≤ 524288 from by omega)⟩ (by show 524288 - (k + 1) < 524288 - k; omega))
          · -- (1 : Int32)
            have ht36 := hts.trans qt36
            have hc36 : ps_mp (mu_i Hs 80 6) = ps_mp (mu_i Hs 80 6) := congrArg ps_mp (show mu_i Hs 80 6 = (mu_i Hs 80 6) from rfl)
            refine mw_go mu_g35 (k := 4) (f1 := (48, [(5, .inl ((nI k) + 1)), (4, .inl (1 : Int32)), (0, .inr (.inr (some 80)))], [], H36)) (C := []) rfl trivial ?_
            have hk : ∀ j, False → mu_i H36 80 j = mu_i H 80 j := (fun _ hj => hj.elim)
            rw [nI_1]
            exact mw_sub (by simp) (ih ((1 : Int32), k + 1, H36) ⟨hp36, ht36, hk, (show ps_pot m H36 ≤ ps_pot m H + 60 from by omega), (show ¬ (1 : Int32) = 0 → ps_pot m H36 ≤ ps_pot m H from (fun _ => by omega)), (show ¬ (1 : Int32) = 0 → PC m H36 from (fun _ => qp36)), (show (k + 1) ≤ 524288 from by omega)⟩ (by show 524288 - (k + 1) < 524288 - k; omega))
        · -- 9: 248
          have h37 : (mu_i Hs 80 6) = (9 : Int32) := Int32.toInt_inj.mp (z.trans (by decide))
          refine mw_go mu_g35 (k := 1) (f1 := (249, [(4, .inl y), (5, .inl (nI k)), (0, .inr (.inr (some 80)))], [.inr (.inr (some 80))], Hs)) (C := []) rfl trivial ?_
          obtain ⟨f, hfr, hy⟩ := PC.m9 hP h37
          refine mw_cI (fun _ => rfl) (show mu_is Hs (some 80) 7 from hps.1.is rfl) (pb_chended (d := (d + 4)) (B := B) hps hBB (by omega) hfr hy h37) (fun x38 H38 q38 => ?_)
          rcases q38 with ⟨rfl, hp38, qt38, qb38⟩ | ⟨rfl, hp38, qt38, qb38, qp38⟩
          · -- (0 : Int32)
            have ht38 := hts.trans qt38
            have hc38 : ps_mp (mu_i Hs 80 6) = ps_mp (mu_i Hs 80 6) := congrArg ps_mp (show mu_i Hs 80 6 = (mu_i Hs 80 6) from rfl)
            refine mw_go mu_g35 (k := 4) (f1 := (48, [(5, .inl ((nI k) + 1)), (4, .inl (0 : Int32)), (0, .inr (.inr (some 80)))], [], H38)) (C := []) rfl trivial ?_
            have hk : ∀ j, False → mu_i H38 80 j = mu_i H 80 j := (fun _ hj => hj.elim)
            rw [nI_1]
            exact mw_sub (by simp) (ih ((0 : Int32), k + 1, H38) ⟨hp38, ht38, hk, (show ps_pot m H38 ≤ ps_pot m H + 60 from by omega), (show ¬ (0 : Int32) = 0 → ps_pot m H38 ≤ ps_pot m H from (fun z => absurd rfl z)), (show ¬ (0 : Int32) = 0 → PC m H38 from (fun z => absurd rfl z)), (show (k + 1) ≤ 524288 from by omega)⟩ (by show 524288 - (k + 1) < 524288 - k; omega))
          · -- (1 : Int32)
            have ht38 := hts.trans qt38
            have hc38 : ps_mp (mu_i Hs 80 6) = ps_mp (mu_i Hs 80 6) := congrArg ps_mp (show mu_i Hs 80 6 = (mu_i Hs 80 6) from rfl)
            refine mw_go mu_g35 (k := 4) (f1 := (48, [(5, .inl ((nI k) + 1)), (4, .inl (1 : Int32)), (0, .inr (.inr (some 80)))], [], H38)) (C := []) rfl trivial ?_
            have hk : ∀ j, False → mu_i H38 80 j = mu_i H 80 j := (fun _ hj => hj.elim)
            rw [nI_1]
            exact mw_sub (by simp) (ih ((1 : Int32), k + 1, H38) ⟨hp38, ht38, hk, (show ps_pot m H38 ≤ ps_pot m H + 60 from by omega), (show ¬ (1 : Int32) = 0 → ps_pot m H38 ≤ ps_pot m H from (fun _ => by omega)), (show ¬ (1 : Int32) = 0 → PC m H38 from (fun _ => qp38)), (show (k + 1) ≤ 524288 from by omega)⟩ (by show 524288 - (k + 1) < 524288 - k; omega))
  · -- 278: not (nI k) < (524288 : Int32)
    refine mw_go mu_g35 (k := 1) (f1 := (280, [(4, .inl y), (5, .inl (nI k)), (0, .inr (.inr (some 80)))], [.inl y], Hs)) (C := []) rfl trivial ?_
    refine mw_if (P := y = 0) (a := 283) (b := 299) (fun _ => rfl) trivial (fun h39 => ?_) (fun h39 => ?_)
    · -- 283: y = 0
      refine mw_go mu_g35 (k := 2) (f1 := (287, [(4, .inl y), (5, .inl (nI k)), (0, .inr (.inr (some 80)))], [.inr (.inr (mu_r Hs 80 0))], Hs)) (C := [mu_is Hs (some 80) 7]) rfl (show mu_is Hs (some 80) 7 from hps.1.is rfl) ?_
      rw [(hps.1.r (p := 80) (j := 0) (q := 81) rfl)]
      refine mw_go mu_g35 (k := 1) (f1 := (290, [(4, .inl y), (5, .inl (nI k)), (0, .inr (.inr (some 80)))], [.inr (.inr (mu_r Hs 81 5))], Hs)) (C := [mu_is Hs (some 81) 4]) rfl (show mu_is Hs (some 81) 4 from hps.1.is rfl) ?_
      rw [(hps.1.r (p := 81) (j := 5) (q := 82) rfl)]
      refine mw_go mu_g35 (k := 3) (f1 := (295, [(4, .inl y), (5, .inl (nI k)), (0, .inr (.inr (some 80)))], [.inl (2 : Int32), .inl (mu_i Hs 80 3), .inr (.inr (some 82))], Hs)) (C := [mu_is Hs (some 80) 7]) rfl (show mu_is Hs (some 80) 7 from hps.1.is rfl) ?_
      refine mw_cIe (fun _ => rfl) (show mu_is Hs (some 82) 10 from hps.1.is rfl) (gi_get_ok (d := (d + 8)) (H := Hs) hps.1 (r := 82) (W := 3) rfl (mu_i Hs 80 3) (j := 2) (by decide)) ?_
      exact mw_of (fun _ => mu_ret rfl trivial (hΦ _ Hs hps hts (by omega) (Or.inr rfl)))
    · -- 299: not y = 0
      have hb2 := hbt h39
      have hP : PC m Hs := hpc h39
      refine mw_go mu_g35 (k := 1) (f1 := (300, [(4, .inl y), (5, .inl (nI k)), (0, .inr (.inr (some 80)))], [.inr (.inr (some 80))], Hs)) (C := []) rfl trivial ?_
      refine mw_cV (fun _ => rfl) (show mu_is Hs (some 80) 7 from hps.1.is rfl) (pb_symbols (d := (d + 6)) (B := B) hps hP.ct.1 hP.ct.2) (fun H41 q41 => ?_)
      obtain ⟨hp41, qt41, qb41, qc41⟩ := q41
      have ht41 := hts.trans qt41
      refine mw_go mu_g35 (k := 1) (f1 := (304, [(4, .inl y), (5, .inl (nI k)), (0, .inr (.inr (some 80)))], [.inl (-1 : Int32)], H41)) (C := []) rfl trivial ?_
      exact mw_of (fun _ => mu_ret rfl trivial (hΦ _ H41 hp41 ht41 (by omega) (Or.inl ⟨rfl, qc41⟩)))
end ParserMain2
