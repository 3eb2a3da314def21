/-! THE PARSER ONCE MORE: what is taken from the stack -/
/-- how closely an operator binds -/
def lv (q : Nat) : Int32 := (ev_kb.getD 79 []).getD q 0
theorem lv_tab : ∀ q : Fin 54, lv q.1 < 1 ∨ (4 ≤ q.1 ∧ q.1 ≤ 27) := by decide +kernel
theorem lv_bin : ∀ q : Fin 54, (4 ≤ q.1 ∧ q.1 ≤ 8) ∨ (16 ≤ q.1 ∧ q.1 ≤ 26) → ¬ lv q.1 < 1 ∧ ¬ lv q.1 + 1 < 1 := by decide +kernel
section ParserLoops2
variable {H : mu_H} {m B d f : Nat} {X : Ts}
theorem lv_val (hot : mu_ot H) (i : Nat) : mu_i H 1001079 i = lv i := (hot 79 (by decide +kernel)).2.2 i
theorem lv_top (h : ps m H) (hot : mu_ot H) (e : ab m H = X) : mu_i H 1001079 (ps_top H).toNatClampNeg = lv (tq X) := by
  rw [lv_val hot, top_tt h e]
  rfl
theorem lv_op {x : List Bool} {ch : Bool} {w : Int32} (h : ps m H) (hot : mu_ot H) (e : ab m H = X) (hy : cy X f x ch) (hw1 : ¬ w < 1) (hl : ¬ mu_i H 1001079 (ps_top H).toNatClampNeg < w) : 4 ≤ tq X ∧ tq X ≤ 27 := by
  rw [lv_top h hot e] at hl
  rcases lv_tab ⟨tq X, hy.2.1.top.2.1⟩ with z | z
  · exact absurd (ps_lt2 (a := 1) z hw1) hl
  · exact z
theorem pb_fact (h : ps m H) (hBB : B ≤ 1000000) (hB : ps_pot m H ≤ B + 100) (hy : cy (ab m H) f [false] false) : mu_TV (mu_D (d + 6)) 152 [.inr (.inr (some 80))] H (fun H1 => ps m H1 ∧ pt m B H H1 ∧ (∀ j, j ≠ 6 ∧ j ≠ 7 ∧ j ≠ 8 → mu_i H1 80 j = mu_i H 80 j) ∧ ps_pot m H1 + ps_mp (mu_i H 80 6) ≤ ps_pot m H + 2 ∧ mu_i H1 80 6 = 8 ∧ cy (ab m H1) f [false] false) := by
  refine mu_meth (M := mu_m152) rfl rfl ?_
  refine mw_ht (mu_fn_of (show [0].Nodup by decide)) ?_
  refine mw_go mu_g152 (k := 8) (f1 := (14, [(0, .inr (.inr (some 80)))], [.inr (.inr (mu_r H 80 1))], (mu_si H 80 8 ((mu_i H 80 8) - (1 : Int32))))) (C := [mu_is H (some 80) 7, mu_is H (some 80) 7, mu_is (mu_si H 80 8 ((mu_i H 80 8) - (1 : Int32))) (some 80) 7]) rfl (show (mu_is H (some 80) 7) ∧ (mu_is H (some 80) 7) ∧ (mu_is (mu_si H 80 8 ((mu_i H 80 8) - (1 : Int32))) (some 80) 7) from ⟨h.1.is rfl, h.1.is rfl, h.1.is rfl⟩) ?_
  rw [(h.1.r (p := 80) (j := 1) (q := 89) rfl)]
  refine mw_go mu_g152 (k := 2) (f1 := (18, [(1, .inl (mu_i (mu_si H 80 8 ((mu_i H 80 8) - (1 : Int32))) 89 2)), (0, .inr (.inr (some 80)))], [], (mu_si H 80 8 ((mu_i H 80 8) - (1 : Int32))))) (C := [mu_is (mu_si H 80 8 ((mu_i H 80 8) - (1 : Int32))) (some 89) 10]) rfl (show mu_is (mu_si H 80 8 ((mu_i H 80 8) - (1 : Int32))) (some 89) 10 from h.1.is rfl) ?_
  have hp1 : ps m (mu_si H 80 8 ((mu_i H 80 8) - (1 : Int32))) := h.si (by decide) (by decide)
  have ht1 : pt m B H (mu_si H 80 8 ((mu_i H 80 8) - (1 : Int32))) := (pt.refl m B H).trans (pt.si h)
  have ha1 : ab m (mu_si H 80 8 ((mu_i H 80 8) - (1 : Int32))) = (ab m H) := ab_si h.1 h.2.1
  have hb1 : ps_pot m (mu_si H 80 8 ((mu_i H 80 8) - (1 : Int32))) = ps_pot m H := ps_potj h ((mu_i H 80 8) - (1 : Int32)) (by decide) (by decide)
  have hs1 : gi_sz (mu_si H 80 8 ((mu_i H 80 8) - (1 : Int32))) 89 = gi_sz H 89 := rfl
  have hk : ∀ j, j ≠ 8 → mu_i (mu_si H 80 8 ((mu_i H 80 8) - (1 : Int32))) 80 j = mu_i H 80 j := (fun j hj => by rw [mu_i_si, if_neg (fun z => by omega)])
  refine mw_sub (L' := [(1, .inl (mu_i (mu_si H 80 8 ((mu_i H 80 8) - (1 : Int32))) 89 2)), (0, .inr (.inr (some 80)))]) (by simp) ?_
  refine mw_down (α := Int32 × mu_H) (fun s => (18, [(1, .inl s.1), (0, .inr (.inr (some 80)))], [], s.2)) (fun s => ps_pot m s.2) (fun s => (ps m s.2) ∧ (pt m B H s.2) ∧ (∀ j, j ≠ 8 → mu_i s.2 80 j = mu_i H 80 j) ∧ (ps_pot m s.2 ≤ ps_pot m H) ∧ (cy (ab m s.2) f [false] false)) (fun s hs ih => ?_) ((mu_i (mu_si H 80 8 ((mu_i H 80 8) - (1 : Int32))) 89 2), (mu_si H 80 8 ((mu_i H 80 8) - (1 : Int32)))) ⟨hp1, ht1, hk, (show ps_pot m (mu_si H 80 8 ((mu_i H 80 8) - (1 : Int32))) ≤ ps_pot m H from by omega), (show cy (ab m (mu_si H 80 8 ((mu_i H 80 8) - (1 : Int32)))) f [false] false from (by rw [ha1]; exact hy))⟩
  obtain ⟨x, Hs⟩ := s
  obtain ⟨hps, hts, his, hbs, hys⟩ := hs
  have hps : ps m Hs := hps
  have hts : pt m B H Hs := hts
  have his : ∀ j, j ≠ 8 → mu_i Hs 80 j = mu_i H 80 j := his
  have hbs : ps_pot m Hs ≤ ps_pot m H := hbs
  have hys : cy (ab m Hs) f [false] false := hys
  show mu_W _ _ (18, [(1, .inl x), (0, .inr (.inr (some 80)))], [], Hs) _
  refine mw_go mu_g152 (k := 1) (f1 := (19, [(1, .inl x), (0, .inr (.inr (some 80)))], [.inl x], Hs)) (C := []) rfl trivial ?_
  refine mw_if (P := 0 < x) (a := 22) (b := 58) (fun _ => rfl) trivial (fun h3 => ?_) (fun h3 => ?_)
  · -- 22: 0 < x
    refine mw_go mu_g152 (k := 1) (f1 := (23, [(1, .inl x), (0, .inr (.inr (some 80)))], [.inr (.inr (some 80))], Hs)) (C := []) rfl trivial ?_
    refine mw_cIe (fun _ => rfl) (show mu_is Hs (some 80) 7 from hps.1.is rfl) (pa_top (d := (d + 3)) hps) ?_
    refine mw_go mu_g152 (k := 1) (f1 := (28, [(1, .inl x), (0, .inr (.inr (some 80)))], [.inl (27 : Int32), .inl (ps_top Hs)], Hs)) (C := []) rfl trivial ?_
    refine mw_if (P := (ps_top Hs) = (27 : Int32)) (a := 31) (b := 58) (fun _ => rfl) trivial (fun h5 => ?_) (fun h5 => ?_)
    · -- 31: (ps_top Hs) = (27 : Int32)
      have hz5 := ps_top_sz hps h5 (by decide)
      refine mw_go mu_g152 (k := 1) (f1 := (32, [(1, .inl x), (0, .inr (.inr (some 80)))], [.inr (.inr (some 80))], Hs)) (C := []) rfl trivial ?_
      refine mw_cV (fun _ => rfl) (show mu_is Hs (some 80) 7 from hps.1.is rfl) (pb_drop (d := (d + 2)) (B := B) hps) (fun H6 q6 => ?_)
      obtain ⟨hp6, qt6, qi6, qs6, qb6, qa6⟩ := q6
      have ht6 := hts.trans qt6
      have ha6 : ab m H6 = (td (ab m Hs)) := qa6
      refine mw_go mu_g152 (k := 3) (f1 := (39, [(1, .inl x), (0, .inr (.inr (some 80)))], [.inl (0 : Int32), .inl (27 : Int32), .inr (.inr (some 80))], H6)) (C := []) rfl trivial ?_
      refine mw_cV (fun _ => rfl) (show mu_is H6 (some 80) 7 from hp6.1.is rfl) (pb_emit (d := (d + 1)) (B := B) hp6 hBB (by omega) (27 : Int32) (0 : Int32)) (fun H7 q7 => ?_)
      obtain ⟨hp7, qt7, qi7, qs7, qb7, qa7⟩ := q7
      have ht7 := ht6.trans qt7
      have ha7 : ab m H7 = (tp 0 (td (ab m Hs)) (27 : Int32) (0 : Int32) 0 0) := qa7.trans (by rw [ha6])
      refine mw_go mu_g152 (k := 3) (f1 := (47, [(1, .inl x), (0, .inr (.inr (some 80)))], [.inl (mu_i H7 80 8), .inr (.inr (some 80))], H7)) (C := [mu_is H7 (some 80) 7]) rfl (show mu_is H7 (some 80) 7 from hp7.1.is rfl) ?_
      rw [((qi7 8).trans (qi6 8))]
      refine mw_go mu_g152 (k := 5) (f1 := (18, [(1, .inl (x + (-1))), (0, .inr (.inr (some 80)))], [], (mu_si H7 80 8 ((mu_i Hs 80 8) - (1 : Int32))))) (C := [mu_is H7 (some 80) 7]) rfl (show mu_is H7 (some 80) 7 from hp7.1.is rfl) ?_
      have hp8 : ps m (mu_si H7 80 8 ((mu_i Hs 80 8) - (1 : Int32))) := hp7.si (by decide) (by decide)
      have ht8 : pt m B H (mu_si H7 80 8 ((mu_i Hs 80 8) - (1 : Int32))) := ht7.trans (pt.si hp7)
      have ha8 : ab m (mu_si H7 80 8 ((mu_i Hs 80 8) - (1 : Int32))) = (tp 0 (td (ab m Hs)) (27 : Int32) (0 : Int32) 0 0) := (ab_si hp7.1 hp7.2.1).trans ha7
      have hb8 : ps_pot m (mu_si H7 80 8 ((mu_i Hs 80 8) - (1 : Int32))) = ps_pot m H7 := ps_potj hp7 ((mu_i Hs 80 8) - (1 : Int32)) (by decide) (by decide)
      have hs8 : gi_sz (mu_si H7 80 8 ((mu_i Hs 80 8) - (1 : Int32))) 89 = gi_sz H7 89 := rfl
      have hi9_3 : mu_i (mu_si H7 80 8 ((mu_i Hs 80 8) - (1 : Int32))) 80 3 = (mu_i H 80 3) := ((qi7 3).trans ((qi6 3).trans (his 3 (by decide))))
      have hi9_4 : mu_i (mu_si H7 80 8 ((mu_i Hs 80 8) - (1 : Int32))) 80 4 = (mu_i H 80 4) := ((qi7 4).trans ((qi6 4).trans (his 4 (by decide))))
      have hi9_5 : mu_i (mu_si H7 80 8 ((mu_i Hs 80 8) - (1 : Int32))) 80 5 = (mu_i H 80 5) := ((qi7 5).trans ((qi6 5).trans (his 5 (by decide))))
      have hi9_6 : mu_i (mu_si H7 80 8 ((mu_i Hs 80 8) - (1 : Int32))) 80 6 = (mu_i H 80 6) := ((qi7 6).trans ((qi6 6).trans (his 6 (by decide))))
      have hi9_7 : mu_i (mu_si H7 80 8 ((mu_i Hs 80 8) - (1 : Int32))) 80 7 = (mu_i H 80 7) := ((qi7 7).trans ((qi6 7).trans (his 7 (by decide))))
      have hi9_9 : mu_i (mu_si H7 80 8 ((mu_i Hs 80 8) - (1 : Int32))) 80 9 = (mu_i H 80 9) := ((qi7 9).trans ((qi6 9).trans (his 9 (by decide))))
      have hi9_10 : mu_i (mu_si H7 80 8 ((mu_i Hs 80 8) - (1 : Int32))) 80 10 = (mu_i H 80 10) := ((qi7 10).trans ((qi6 10).trans (his 10 (by decide))))
      have hi9_11 : mu_i (mu_si H7 80 8 ((mu_i Hs 80 8) - (1 : Int32))) 80 11 = (mu_i H 80 11) := ((qi7 11).trans ((qi6 11).trans (his 11 (by decide))))
      have hk : ∀ j, j ≠ 8 → mu_i (mu_si H7 80 8 ((mu_i Hs 80 8) - (1 : Int32))) 80 j = mu_i H 80 j := (fun j hj => by rw [mu_i_si, if_neg (fun z => by omega)]; rw [qi7]; rw [qi6]; rw [his j (by omega)])
      exact mw_sub (by simp) (ih ((x + (-1)), (mu_si H7 80 8 ((mu_i Hs 80 8) - (1 : Int32)))) ⟨hp8, ht8, hk, (show ps_pot m (mu_si H7 80 8 ((mu_i Hs 80 8) - (1 : Int32))) ≤ ps_pot m H from by omega), (show cy (ab m (mu_si H7 80 8 ((mu_i Hs 80 8) - (1 : Int32)))) f [false] false from (by rw [ha8, td_tp0, show (27 : Int32) = tt (ab m Hs) from h5.symm.trans (ps_top_tt hps)]; exact hys.unw (by rw [tq_top hps rfl (k := 27) h5 (by decide)]; decide) (by rw [tq_top hps rfl (k := 27) h5 (by decide)]; decide) (pot_0 (by omega))))⟩ (by show ps_pot m (mu_si H7 80 8 ((mu_i Hs 80 8) - (1 : Int32))) < ps_pot m Hs; omega))
    · -- 58: not (ps_top Hs) = (27 : Int32)
      refine mw_go mu_g152 (k := 6) (f1 := (70, [(1, .inl x), (0, .inr (.inr (some 80)))], [], (mu_si (mu_si Hs 80 6 (8 : Int32)) 80 7 (9 : Int32)))) (C := [mu_is Hs (some 80) 7, mu_is (mu_si Hs 80 6 (8 : Int32)) (some 80) 7]) rfl (show (mu_is Hs (some 80) 7) ∧ (mu_is (mu_si Hs 80 6 (8 : Int32)) (some 80) 7) from ⟨hps.1.is rfl, hps.1.is rfl⟩) ?_
      have hp10 : ps m (mu_si Hs 80 6 (8 : Int32)) := hps.si (by decide) (by decide)
      have ht10 : pt m B H (mu_si Hs 80 6 (8 : Int32)) := hts.trans (pt.si hps)
      have ha10 : ab m (mu_si Hs 80 6 (8 : Int32)) = (ab m Hs) := ab_si hps.1 hps.2.1
      have hb10 : ps_pot m (mu_si Hs 80 6 (8 : Int32)) + ps_mp (mu_i Hs 80 6) = ps_pot m Hs + 2 := ps_pot6 hps (8 : Int32)
      have hc10 : ps_mp (mu_i Hs 80 6) = ps_mp (mu_i H 80 6) := congrArg ps_mp (show mu_i Hs 80 6 = (mu_i H 80 6) from (his 6 (by decide)))
      have hs10 : gi_sz (mu_si Hs 80 6 (8 : Int32)) 89 = gi_sz Hs 89 := rfl
      have hp11 : ps m (mu_si (mu_si Hs 80 6 (8 : Int32)) 80 7 (9 : Int32)) := hp10.si (by decide) (by decide)
      have ht11 : pt m B H (mu_si (mu_si Hs 80 6 (8 : Int32)) 80 7 (9 : Int32)) := ht10.trans (pt.si hp10)
      have ha11 : ab m (mu_si (mu_si Hs 80 6 (8 : Int32)) 80 7 (9 : Int32)) = (ab m Hs) := (ab_si hp10.1 hp10.2.1).trans ha10
      have hb11 : ps_pot m (mu_si (mu_si Hs 80 6 (8 : Int32)) 80 7 (9 : Int32)) = ps_pot m (mu_si Hs 80 6 (8 : Int32)) := ps_potj hp10 (9 : Int32) (by decide) (by decide)
      have hs11 : gi_sz (mu_si (mu_si Hs 80 6 (8 : Int32)) 80 7 (9 : Int32)) 89 = gi_sz (mu_si Hs 80 6 (8 : Int32)) 89 := rfl
      have hi12_3 : mu_i (mu_si (mu_si Hs 80 6 (8 : Int32)) 80 7 (9 : Int32)) 80 3 = (mu_i H 80 3) := (his 3 (by decide))
      have hi12_4 : mu_i (mu_si (mu_si Hs 80 6 (8 : Int32)) 80 7 (9 : Int32)) 80 4 = (mu_i H 80 4) := (his 4 (by decide))
      have hi12_5 : mu_i (mu_si (mu_si Hs 80 6 (8 : Int32)) 80 7 (9 : Int32)) 80 5 = (mu_i H 80 5) := (his 5 (by decide))
      have hi12_9 : mu_i (mu_si (mu_si Hs 80 6 (8 : Int32)) 80 7 (9 : Int32)) 80 9 = (mu_i H 80 9) := (his 9 (by decide))
      have hi12_10 : mu_i (mu_si (mu_si Hs 80 6 (8 : Int32)) 80 7 (9 : Int32)) 80 10 = (mu_i H 80 10) := (his 10 (by decide))
      have hi12_11 : mu_i (mu_si (mu_si Hs 80 6 (8 : Int32)) 80 7 (9 : Int32)) 80 11 = (mu_i H 80 11) := (his 11 (by decide))
      have hk : ∀ j, j ≠ 6 ∧ j ≠ 7 ∧ j ≠ 8 → mu_i (mu_si (mu_si Hs 80 6 (8 : Int32)) 80 7 (9 : Int32)) 80 j = mu_i H 80 j := (fun j hj => by rw [mu_i_si, if_neg (fun z => by omega)]; rw [mu_i_si, if_neg (fun z => by omega)]; rw [his j (by omega)])
      exact mw_of (fun _ => mu_ret rfl trivial ⟨(mu_si (mu_si Hs 80 6 (8 : Int32)) 80 7 (9 : Int32)), rfl, hp11, ht11, hk, by omega, rfl, (by rw [ha11]; exact hys)⟩)
  · -- 58: not 0 < x
    refine mw_go mu_g152 (k := 6) (f1 := (70, [(1, .inl x), (0, .inr (.inr (some 80)))], [], (mu_si (mu_si Hs 80 6 (8 : Int32)) 80 7 (9 : Int32)))) (C := [mu_is Hs (some 80) 7, mu_is (mu_si Hs 80 6 (8 : Int32)) (some 80) 7]) rfl (show (mu_is Hs (some 80) 7) ∧ (mu_is (mu_si Hs 80 6 (8 : Int32)) (some 80) 7) from ⟨hps.1.is rfl, hps.1.is rfl⟩) ?_
    have hp13 : ps m (mu_si Hs 80 6 (8 : Int32)) := hps.si (by decide) (by decide)
    have ht13 : pt m B H (mu_si Hs 80 6 (8 : Int32)) := hts.trans (pt.si hps)
    have ha13 : ab m (mu_si Hs 80 6 (8 : Int32)) = (ab m Hs) := ab_si hps.1 hps.2.1
    have hb13 : ps_pot m (mu_si Hs 80 6 (8 : Int32)) + ps_mp (mu_i Hs 80 6) = ps_pot m Hs + 2 := ps_pot6 hps (8 : Int32)
    have hc13 : ps_mp (mu_i Hs 80 6) = ps_mp (mu_i H 80 6) := congrArg ps_mp (show mu_i Hs 80 6 = (mu_i H 80 6) from (his 6 (by decide)))
    have hs13 : gi_sz (mu_si Hs 80 6 (8 : Int32)) 89 = gi_sz Hs 89 := rfl
    have hp14 : ps m (mu_si (mu_si Hs 80 6 (8 : Int32)) 80 7 (9 : Int32)) := hp13.si (by decide) (by decide)
    have ht14 : pt m B H (mu_si (mu_si Hs 80 6 (8 : Int32)) 80 7 (9 : Int32)) := ht13.trans (pt.si hp13)
    have ha14 : ab m (mu_si (mu_si Hs 80 6 (8 : Int32)) 80 7 (9 : Int32)) = (ab m Hs) := (ab_si hp13.1 hp13.2.1).trans ha13
    have hb14 : ps_pot m (mu_si (mu_si Hs 80 6 (8 : Int32)) 80 7 (9 : Int32)) = ps_pot m (mu_si Hs 80 6 (8 : Int32)) := ps_potj hp13 (9 : Int32) (by decide) (by decide)
    have hs14 : gi_sz (mu_si (mu_si Hs 80 6 (8 : Int32)) 80 7 (9 : Int32)) 89 = gi_sz (mu_si Hs 80 6 (8 : Int32)) 89 := rfl
    have hi15_3 : mu_i (mu_si (mu_si Hs 80 6 (8 : Int32)) 80 7 (9 : Int32)) 80 3 = (mu_i H 80 3) := (his 3 (by decide))
    have hi15_4 : mu_i (mu_si (mu_si Hs 80 6 (8 : Int32)) 80 7 (9 : Int32)) 80 4 = (mu_i H 80 4) := (his 4 (by decide))
    have hi15_5 : mu_i (mu_si (mu_si Hs 80 6 (8 : Int32)) 80 7 (9 : Int32)) 80 5 = (mu_i H 80 5) := (his 5 (by decide))
    have hi15_9 : mu_i (mu_si (mu_si Hs 80 6 (8 : Int32)) 80 7 (9 : Int32)) 80 9 = (mu_i H 80 9) := (his 9 (by decide))
    have hi15_10 : mu_i (mu_si (mu_si Hs 80 6 (8 : Int32)) 80 7 (9 : Int32)) 80 10 = (mu_i H 80 10) := (his 10 (by decide))
    have hi15_11 : mu_i (mu_si (mu_si Hs 80 6 (8 : Int32)) 80 7 (9 : Int32)) 80 11 = (mu_i H 80 11) := (his 11 (by decide))
    have hk : ∀ j, j ≠ 6 ∧ j ≠ 7 ∧ j ≠ 8 → mu_i (mu_si (mu_si Hs 80 6 (8 : Int32)) 80 7 (9 : Int32)) 80 j = mu_i H 80 j := (fun j hj => by rw [mu_i_si, if_neg (fun z => by omega)]; rw [mu_i_si, if_neg (fun z => by omega)]; rw [his j (by omega)])
    exact mw_of (fun _ => mu_ret rfl trivial ⟨(mu_si (mu_si Hs 80 6 (8 : Int32)) 80 7 (9 : Int32)), rfl, hp14, ht14, hk, by omega, rfl, (by rw [ha14]; exact hys)⟩)
theorem pb_unwind (h : ps m H) (hBB : B ≤ 1000000) (hB : ps_pot m H ≤ B + 98) (w : Int32) (hy : cy (ab m H) f [false] false) (hw1 : ¬ w < 1) : mu_TI (mu_D (d + 6)) 161 [.inr (.inr (some 80)), .inl w] H (fun _ H1 => ps m H1 ∧ pt m B H H1 ∧ (∀ j, j ≠ 8 → mu_i H1 80 j = mu_i H 80 j) ∧ ps_pot m H1 ≤ ps_pot m H ∧ gi_sz H1 89 ≤ gi_sz H 89 ∧ cy (ab m H1) f [false] false ∧ lv (tq (ab m H1)) < w) := by
  refine mu_meth (M := mu_m161) rfl rfl ?_
  refine mw_ht (mu_fn_of (show [0, 1].Nodup by decide)) ?_
  refine mw_go mu_g161 (k := 4) (f1 := (6, [(2, .inl (0 : Int32)), (0, .inr (.inr (some 80))), (1, .inl w)], [.inr (.inr (mu_r H 80 1))], H)) (C := [mu_is H (some 80) 7]) rfl (show mu_is H (some 80) 7 from h.1.is rfl) ?_
  rw [(h.1.r (p := 80) (j := 1) (q := 89) rfl)]
  refine mw_go mu_g161 (k := 2) (f1 := (10, [(3, .inl (mu_i H 89 2)), (2, .inl (0 : Int32)), (0, .inr (.inr (some 80))), (1, .inl w)], [], H)) (C := [mu_is H (some 89) 10]) rfl (show mu_is H (some 89) 10 from h.1.is rfl) ?_
  have hsz : gi_sz H 89 ≤ 67108864 := rw_n (h.1.w (r := 89) (W := 2) rfl)
  rw [(h.1.w (r := 89) (W := 2) rfl).2.2.2.1]
  have hk : ∀ j, j ≠ 8 → mu_i H 80 j = mu_i H 80 j := (fun j hj => by rfl)
  refine mw_sub (L' := [(2, .inl (0 : Int32)), (3, .inl (nI (gi_sz H 89))), (0, .inr (.inr (some 80))), (1, .inl w)]) (by simp) ?_
  refine mw_down (α := Int32 × Nat × mu_H) (fun s => (10, [(2, .inl s.1), (3, .inl (nI s.2.1)), (0, .inr (.inr (some 80))), (1, .inl w)], [], s.2.2)) (fun s => ps_pot m s.2.2) (fun s => (ps m s.2.2) ∧ (pt m B H s.2.2) ∧ (∀ j, j ≠ 8 → mu_i s.2.2 80 j = mu_i H 80 j) ∧ (ps_pot m s.2.2 ≤ ps_pot m H) ∧ (s.2.1 = gi_sz s.2.2 89) ∧ (gi_sz s.2.2 89 ≤ gi_sz H 89) ∧ (cy (ab m s.2.2) f [false] false)) (fun s hs ih => ?_) ((0 : Int32), gi_sz H 89, H) ⟨h, (pt.refl m B H), hk, (show ps_pot m H ≤ ps_pot m H from by omega), (show (gi_sz H 89) = gi_sz H 89 from by omega), (show gi_sz H 89 ≤ gi_sz H 89 from by omega), (show cy (ab m H) f [false] false from hy)⟩
  obtain ⟨y, k, Hs⟩ := s
  obtain ⟨hps, hts, his, hbs, hks, hss, hys⟩ := hs
  have hps : ps m Hs := hps
  have hts : pt m B H Hs := hts
  have his : ∀ j, j ≠ 8 → mu_i Hs 80 j = mu_i H 80 j := his
  have hbs : ps_pot m Hs ≤ ps_pot m H := hbs
  have hks : k = gi_sz Hs 89 := hks
  have hss : gi_sz Hs 89 ≤ gi_sz H 89 := hss
  have hys : cy (ab m Hs) f [false] false := hys
  show mu_W _ _ (10, [(2, .inl y), (3, .inl (nI k)), (0, .inr (.inr (some 80))), (1, .inl w)], [], Hs) _
  refine mw_ot (fun hot => ?_)
  have hot : mu_ot Hs := hot
  refine mw_go mu_g161 (k := 1) (f1 := (11, [(2, .inl y), (3, .inl (nI k)), (0, .inr (.inr (some 80))), (1, .inl w)], [.inl (nI k)], Hs)) (C := []) rfl trivial ?_
  refine mw_if (P := 0 < (nI k)) (a := 14) (b := 72) (fun _ => rfl) trivial (fun h1 => ?_) (fun h1 => ?_)
  · -- 14: 0 < (nI k)
    have hk0 : 0 < k := (nI_ltI (a := 0) (by decide) (by omega)).mp (show nI 0 < nI k from h1)
    refine mw_go mu_g161 (k := 2) (f1 := (18, [(2, .inl y), (3, .inl (nI k)), (0, .inr (.inr (some 80))), (1, .inl w)], [.inr (.inr (some 80)), .inr (.inr (some 1001079))], Hs)) (C := []) rfl trivial ?_
    refine mw_cIe (fun _ => rfl) (show mu_is Hs (some 80) 7 from hps.1.is rfl) (pa_top (d := (d + 3)) hps) ?_
    refine mw_go mu_g161 (k := 2) (f1 := (23, [(2, .inl y), (3, .inl (nI k)), (0, .inr (.inr (some 80))), (1, .inl w)], [.inl w, .inl (mu_i Hs 1001079 (ps_top Hs).toNatClampNeg)], Hs)) (C := [mu_isr Hs (some 1001079) 100, vp_in (ps_top Hs) (mu_n Hs 1001079)]) rfl (show (mu_isr Hs (some 1001079) 100) ∧ (vp_in (ps_top Hs) (mu_n Hs 1001079)) from ⟨(lv_ok hot).1, ps_lv hps hot⟩) ?_
    refine mw_if (P := (mu_i Hs 1001079 (ps_top Hs).toNatClampNeg) < w) (a := 72) (b := 26) (fun _ => rfl) trivial (fun h3 => ?_) (fun h3 => ?_)
    · -- 72: (mu_i Hs 1001079 (ps_top Hs).toNatClampNeg) < w
      refine mw_go mu_g161 (k := 1) (f1 := (73, [(2, .inl y), (3, .inl (nI k)), (0, .inr (.inr (some 80))), (1, .inl w)], [.inl y], Hs)) (C := []) rfl trivial ?_
      exact mw_of (fun _ => mu_ret rfl trivial ⟨_, Hs, rfl, hps, hts, (fun j hj => by rw [his j (by omega)]), by omega, by omega, hys, by rw [← lv_top hps hot rfl]; exact h3⟩)
    · -- 26: not (mu_i Hs 1001079 (ps_top Hs).toNatClampNeg) < w
      have h427 := lv_op hps hot rfl hys hw1 h3
      refine mw_go mu_g161 (k := 2) (f1 := (30, [(2, .inl y), (3, .inl (nI k)), (0, .inr (.inr (some 80))), (1, .inl w)], [.inr (.inr (some 80)), .inr (.inr (some 1001079))], Hs)) (C := []) rfl trivial ?_
      refine mw_cIe (fun _ => rfl) (show mu_is Hs (some 80) 7 from hps.1.is rfl) (pa_top (d := (d + 3)) hps) ?_
      refine mw_go mu_g161 (k := 4) (f1 := (37, [(2, .inl (mu_i Hs 1001079 (ps_top Hs).toNatClampNeg)), (3, .inl (nI k)), (0, .inr (.inr (some 80))), (1, .inl w)], [.inl (5 : Int32), .inl (mu_i Hs 1001079 (ps_top Hs).toNatClampNeg)], Hs)) (C := [mu_isr Hs (some 1001079) 100, vp_in (ps_top Hs) (mu_n Hs 1001079)]) rfl (show (mu_isr Hs (some 1001079) 100) ∧ (vp_in (ps_top Hs) (mu_n Hs 1001079)) from ⟨(lv_ok hot).1, ps_lv hps hot⟩) ?_
      refine mw_if (P := (mu_i Hs 1001079 (ps_top Hs).toNatClampNeg) = (5 : Int32)) (a := 40) (b := 50) (fun _ => rfl) trivial (fun h5 => ?_) (fun h5 => ?_)
      · -- 40: (mu_i Hs 1001079 (ps_top Hs).toNatClampNeg) = (5 : Int32)
        refine mw_go mu_g161 (k := 8) (f1 := (52, [(2, .inl (mu_i Hs 1001079 (ps_top Hs).toNatClampNeg)), (3, .inl (nI k)), (0, .inr (.inr (some 80))), (1, .inl w)], [.inr (.inr (some 80)), .inr (.inr (some 80))], (mu_si Hs 80 8 ((mu_i Hs 80 8) - (1 : Int32))))) (C := [mu_is Hs (some 80) 7, mu_is Hs (some 80) 7]) rfl (show (mu_is Hs (some 80) 7) ∧ (mu_is Hs (some 80) 7) from ⟨hps.1.is rfl, hps.1.is rfl⟩) ?_
        have hp6 : ps m (mu_si Hs 80 8 ((mu_i Hs 80 8) - (1 : Int32))) := hps.si (by decide) (by decide)
        have ht6 : pt m B H (mu_si Hs 80 8 ((mu_i Hs 80 8) - (1 : Int32))) := hts.trans (pt.si hps)
        have ha6 : ab m (mu_si Hs 80 8 ((mu_i Hs 80 8) - (1 : Int32))) = (ab m Hs) := ab_si hps.1 hps.2.1
        have hb6 : ps_pot m (mu_si Hs 80 8 ((mu_i Hs 80 8) - (1 : Int32))) = ps_pot m Hs := ps_potj hps ((mu_i Hs 80 8) - (1 : Int32)) (by decide) (by decide)
        have hs6 : gi_sz (mu_si Hs 80 8 ((mu_i Hs 80 8) - (1 : Int32))) 89 = gi_sz Hs 89 := rfl
        have hi7_3 : mu_i (mu_si Hs 80 8 ((mu_i Hs 80 8) - (1 : Int32))) 80 3 = (mu_i H 80 3) := (his 3 (by decide))
        have hi7_4 : mu_i (mu_si Hs 80 8 ((mu_i Hs 80 8) - (1 : Int32))) 80 4 = (mu_i H 80 4) := (his 4 (by decide))
        have hi7_5 : mu_i (mu_si Hs 80 8 ((mu_i Hs 80 8) - (1 : Int32))) 80 5 = (mu_i H 80 5) := (his 5 (by decide))
        have hi7_6 : mu_i (mu_si Hs 80 8 ((mu_i Hs 80 8) - (1 : Int32))) 80 6 = (mu_i H 80 6) := (his 6 (by decide))
        have hi7_7 : mu_i (mu_si Hs 80 8 ((mu_i Hs 80 8) - (1 : Int32))) 80 7 = (mu_i H 80 7) := (his 7 (by decide))
        have hi7_9 : mu_i (mu_si Hs 80 8 ((mu_i Hs 80 8) - (1 : Int32))) 80 9 = (mu_i H 80 9) := (his 9 (by decide))
        have hi7_10 : mu_i (mu_si Hs 80 8 ((mu_i Hs 80 8) - (1 : Int32))) 80 10 = (mu_i H 80 10) := (his 10 (by decide))
        have hi7_11 : mu_i (mu_si Hs 80 8 ((mu_i Hs 80 8) - (1 : Int32))) 80 11 = (mu_i H 80 11) := (his 11 (by decide))
        refine mw_cIe (fun _ => rfl) (show mu_is (mu_si Hs 80 8 ((mu_i Hs 80 8) - (1 : Int32))) (some 80) 7 from hp6.1.is rfl) (pa_top (d := (d + 3)) hp6) ?_
        refine mw_go mu_g161 (k := 1) (f1 := (56, [(2, .inl (mu_i Hs 1001079 (ps_top Hs).toNatClampNeg)), (3, .inl (nI k)), (0, .inr (.inr (some 80))), (1, .inl w)], [.inr (.inr (some 80)), .inl (ps_top (mu_si Hs 80 8 ((mu_i Hs 80 8) - (1 : Int32)))), .inr (.inr (some 80))], (mu_si Hs 80 8 ((mu_i Hs 80 8) - (1 : Int32))))) (C := []) rfl trivial ?_
        refine mw_cIe (fun _ => rfl) (show mu_is (mu_si Hs 80 8 ((mu_i Hs 80 8) - (1 : Int32))) (some 80) 7 from hp6.1.is rfl) (pb_note (d := (d + 3)) hp6 ha6) ?_
        refine mw_cV (fun _ => rfl) (show mu_is (mu_si Hs 80 8 ((mu_i Hs 80 8) - (1 : Int32))) (some 80) 7 from hp6.1.is rfl) (pb_emit (d := (d + 1)) (B := B) hp6 hBB (by omega) (ps_top (mu_si Hs 80 8 ((mu_i Hs 80 8) - (1 : Int32)))) (tn (ab m Hs))) (fun H10 q10 => ?_)
        obtain ⟨hp10, qt10, qi10, qs10, qb10, qa10⟩ := q10
        have ht10 := ht6.trans qt10
        have ha10 : ab m H10 = (tp 0 (ab m Hs) (tt (ab m Hs)) (tn (ab m Hs)) 0 0) := qa10.trans (by rw [ha6, top_tt hp6 ha6])
        refine mw_go mu_g161 (k := 1) (f1 := (63, [(2, .inl (mu_i Hs 1001079 (ps_top Hs).toNatClampNeg)), (3, .inl (nI k)), (0, .inr (.inr (some 80))), (1, .inl w)], [.inr (.inr (some 80))], H10)) (C := []) rfl trivial ?_
        refine mw_cV (fun _ => rfl) (show mu_is H10 (some 80) 7 from hp10.1.is rfl) (pb_drop (d := (d + 2)) (B := B) hp10) (fun H11 q11 => ?_)
        obtain ⟨hp11, qt11, qi11, qs11, qb11, qa11⟩ := q11
        have ht11 := ht10.trans qt11
        have ha11 : ab m H11 = (td (tp 0 (ab m Hs) (tt (ab m Hs)) (tn (ab m Hs)) 0 0)) := qa11.trans (by rw [ha10])
        refine mw_go mu_g161 (k := 2) (f1 := (10, [(3, .inl ((nI k) + (-1))), (2, .inl (mu_i Hs 1001079 (ps_top Hs).toNatClampNeg)), (0, .inr (.inr (some 80))), (1, .inl w)], [], H11)) (C := []) rfl trivial ?_
        have hk : ∀ j, j ≠ 8 → mu_i H11 80 j = mu_i H 80 j := (fun j hj => by rw [qi11]; rw [qi10]; rw [mu_i_si, if_neg (fun z => by omega)]; rw [his j (by omega)])
        rw [nI_dec hk0]
        exact mw_sub (by simp) (ih ((mu_i Hs 1001079 (ps_top Hs).toNatClampNeg), k - 1, H11) ⟨hp11, ht11, hk, (show ps_pot m H11 ≤ ps_pot m H from by omega), (show (k - 1) = gi_sz H11 89 from by omega), (show gi_sz H11 89 ≤ gi_sz H 89 from by omega), (show cy (ab m H11) f [false] false from (by rw [ha11]; exact hys.unw h427.1 h427.2 (pot_0 (by omega))))⟩ (by show ps_pot m H11 < ps_pot m Hs; omega))
      · -- 50: not (mu_i Hs 1001079 (ps_top Hs).toNatClampNeg) = (5 : Int32)
        refine mw_go mu_g161 (k := 2) (f1 := (52, [(2, .inl (mu_i Hs 1001079 (ps_top Hs).toNatClampNeg)), (3, .inl (nI k)), (0, .inr (.inr (some 80))), (1, .inl w)], [.inr (.inr (some 80)), .inr (.inr (some 80))], Hs)) (C := []) rfl trivial ?_
        refine mw_cIe (fun _ => rfl) (show mu_is Hs (some 80) 7 from hps.1.is rfl) (pa_top (d := (d + 3)) hps) ?_
        refine mw_go mu_g161 (k := 1) (f1 := (56, [(2, .inl (mu_i Hs 1001079 (ps_top Hs).toNatClampNeg)), (3, .inl (nI k)), (0, .inr (.inr (some 80))), (1, .inl w)], [.inr (.inr (some 80)), .inl (ps_top Hs), .inr (.inr (some 80))], Hs)) (C := []) rfl trivial ?_
        refine mw_cIe (fun _ => rfl) (show mu_is Hs (some 80) 7 from hps.1.is rfl) (pb_note (d := (d + 3)) hps rfl) ?_
        refine mw_cV (fun _ => rfl) (show mu_is Hs (some 80) 7 from hps.1.is rfl) (pb_emit (d := (d + 1)) (B := B) hps hBB (by omega) (ps_top Hs) (tn (ab m Hs))) (fun H14 q14 => ?_)
        obtain ⟨hp14, qt14, qi14, qs14, qb14, qa14⟩ := q14
        have ht14 := hts.trans qt14
        have ha14 : ab m H14 = (tp 0 (ab m Hs) (tt (ab m Hs)) (tn (ab m Hs)) 0 0) := qa14.trans (by rw [top_tt hps rfl])
        refine mw_go mu_g161 (k := 1) (f1 := (63, [(2, .inl (mu_i Hs 1001079 (ps_top Hs).toNatClampNeg)), (3, .inl (nI k)), (0, .inr (.inr (some 80))), (1, .inl w)], [.inr (.inr (some 80))], H14)) (C := []) rfl trivial ?_
        refine mw_cV (fun _ => rfl) (show mu_is H14 (some 80) 7 from hp14.1.is rfl) (pb_drop (d := (d + 2)) (B := B) hp14) (fun H15 q15 => ?_)
        obtain ⟨hp15, qt15, qi15, qs15, qb15, qa15⟩ := q15
        have ht15 := ht14.trans qt15
        have ha15 : ab m H15 = (td (tp 0 (ab m Hs) (tt (ab m Hs)) (tn (ab m Hs)) 0 0)) := qa15.trans (by rw [ha14])
        refine mw_go mu_g161 (k := 2) (f1 := (10, [(3, .inl ((nI k) + (-1))), (2, .inl (mu_i Hs 1001079 (ps_top Hs).toNatClampNeg)), (0, .inr (.inr (some 80))), (1, .inl w)], [], H15)) (C := []) rfl trivial ?_
        have hk : ∀ j, j ≠ 8 → mu_i H15 80 j = mu_i H 80 j := (fun j hj => by rw [qi15]; rw [qi14]; rw [his j (by omega)])
        rw [nI_dec hk0]
        exact mw_sub (by simp) (ih ((mu_i Hs 1001079 (ps_top Hs).toNatClampNeg), k - 1, H15) ⟨hp15, ht15, hk, (show ps_pot m H15 ≤ ps_pot m H from by omega), (show (k - 1) = gi_sz H15 89 from by omega), (show gi_sz H15 89 ≤ gi_sz H 89 from by omega), (show cy (ab m H15) f [false] false from (by rw [ha15]; exact hys.unw h427.1 h427.2 (pot_0 (by omega))))⟩ (by show ps_pot m H15 < ps_pot m Hs; omega))
  · -- 72: not 0 < (nI k)
    refine mw_go mu_g161 (k := 1) (f1 := (73, [(2, .inl y), (3, .inl (nI k)), (0, .inr (.inr (some 80))), (1, .inl w)], [.inl y], Hs)) (C := []) rfl trivial ?_
    exfalso
    have hz1 := hys.2.1.2.1.1
    have hz2 : (ab m Hs 11).1 = gi_sz Hs 89 := rfl
    have hz3 : ¬ 0 < k := fun z => h1 ((nI_ltI (a := 0) (by decide) (by omega)).mpr z)
    omega
theorem pb_endp (h : ps m H) (hBB : B ≤ 1000000) (hB : ps_pot m H ≤ B + 98) (hy : cy (ab m H) f [false] false) : mu_TV (mu_D (d + 7)) 160 [.inr (.inr (some 80))] H (fun H1 => ps m H1 ∧ pt m B H H1 ∧ (∀ j, j ≠ 8 → mu_i H1 80 j = mu_i H 80 j) ∧ ps_pot m H1 ≤ ps_pot m H ∧ gi_sz H1 89 ≤ gi_sz H 89 ∧ cy (ab m H1) f [false] false) := by
  refine mu_meth (M := mu_m160) rfl rfl ?_
  refine mw_ht (mu_fn_of (show [0].Nodup by decide)) ?_
  refine mw_go mu_g160 (k := 2) (f1 := (2, [(0, .inr (.inr (some 80)))], [.inl (5 : Int32), .inr (.inr (some 80))], H)) (C := []) rfl trivial ?_
  refine mw_cI (fun _ => rfl) (show mu_is H (some 80) 7 from h.1.is rfl) (pb_unwind (d := d) (B := B) (f := f) h hBB (by omega) (5 : Int32) hy (by decide)) (fun x1 H1 q1 => ?_)
  obtain ⟨hp1, qt1, qi1, qb1, qs1, hy1, ql1⟩ := q1
  have ht1 := (pt.refl m B H).trans qt1
  have hc1 : ps_mp (mu_i H 80 6) = ps_mp (mu_i H 80 6) := congrArg ps_mp (show mu_i H 80 6 = (mu_i H 80 6) from rfl)
  refine mw_go mu_g160 (k := 7) (f1 := (16, [(0, .inr (.inr (some 80)))], [], (mu_si H1 80 8 ((mu_i H1 80 8) - (1 : Int32))))) (C := [mu_is H1 (some 80) 7, mu_is H1 (some 80) 7]) rfl (show (mu_is H1 (some 80) 7) ∧ (mu_is H1 (some 80) 7) from ⟨hp1.1.is rfl, hp1.1.is rfl⟩) ?_
  have hp2 : ps m (mu_si H1 80 8 ((mu_i H1 80 8) - (1 : Int32))) := hp1.si (by decide) (by decide)
  have ht2 : pt m B H (mu_si H1 80 8 ((mu_i H1 80 8) - (1 : Int32))) := ht1.trans (pt.si hp1)
  have ha2 : ab m (mu_si H1 80 8 ((mu_i H1 80 8) - (1 : Int32))) = (ab m H1) := ab_si hp1.1 hp1.2.1
  have hb2 : ps_pot m (mu_si H1 80 8 ((mu_i H1 80 8) - (1 : Int32))) = ps_pot m H1 := ps_potj hp1 ((mu_i H1 80 8) - (1 : Int32)) (by decide) (by decide)
  have hs2 : gi_sz (mu_si H1 80 8 ((mu_i H1 80 8) - (1 : Int32))) 89 = gi_sz H1 89 := rfl
  have hi3_3 : mu_i (mu_si H1 80 8 ((mu_i H1 80 8) - (1 : Int32))) 80 3 = (mu_i H 80 3) := (qi1 3 (by decide))
  have hi3_4 : mu_i (mu_si H1 80 8 ((mu_i H1 80 8) - (1 : Int32))) 80 4 = (mu_i H 80 4) := (qi1 4 (by decide))
  have hi3_5 : mu_i (mu_si H1 80 8 ((mu_i H1 80 8) - (1 : Int32))) 80 5 = (mu_i H 80 5) := (qi1 5 (by decide))
  have hi3_6 : mu_i (mu_si H1 80 8 ((mu_i H1 80 8) - (1 : Int32))) 80 6 = (mu_i H 80 6) := (qi1 6 (by decide))
  have hi3_7 : mu_i (mu_si H1 80 8 ((mu_i H1 80 8) - (1 : Int32))) 80 7 = (mu_i H 80 7) := (qi1 7 (by decide))
  have hi3_9 : mu_i (mu_si H1 80 8 ((mu_i H1 80 8) - (1 : Int32))) 80 9 = (mu_i H 80 9) := (qi1 9 (by decide))
  have hi3_10 : mu_i (mu_si H1 80 8 ((mu_i H1 80 8) - (1 : Int32))) 80 10 = (mu_i H 80 10) := (qi1 10 (by decide))
  have hi3_11 : mu_i (mu_si H1 80 8 ((mu_i H1 80 8) - (1 : Int32))) 80 11 = (mu_i H 80 11) := (qi1 11 (by decide))
  have hk : ∀ j, j ≠ 8 → mu_i (mu_si H1 80 8 ((mu_i H1 80 8) - (1 : Int32))) 80 j = mu_i H 80 j := (fun j hj => by rw [mu_i_si, if_neg (fun z => by omega)]; rw [qi1 j (by omega)])
  exact mw_of (fun _ => mu_ret rfl trivial ⟨(mu_si H1 80 8 ((mu_i H1 80 8) - (1 : Int32))), rfl, hp2, ht2, hk, by omega, by omega, (by rw [ha2]; exact hy1)⟩)
theorem pb_item (h : ps m H) (w : Int32) : mu_TI (mu_D (d + 4)) 155 [.inr (.inr (some 80)), .inl w] H (fun x H1 => (x = 0 ∧ ps m H1 ∧ pt m B H H1 ∧ ps_pot m H1 + ps_mp (mu_i H 80 6) + 4 * (gi_sz H 89 - (gi_sz H 89 - 1)) ≤ ps_pot m H + ps_mp w) ∨ (x = 1 ∧ ps m H1 ∧ pt m B H H1 ∧ ps_pot m H1 + 12 + ps_mp (mu_i H 80 6) + 4 * (gi_sz H 89 - (gi_sz H 89 - 1)) ≤ ps_pot m H + ps_mp w ∧ mu_i H1 80 6 = w ∧ ab m H1 = td (ab m H))) := by
  refine mu_meth (M := mu_m155) rfl rfl ?_
  refine mw_ht (mu_fn_of (show [0, 1].Nodup by decide)) ?_
  refine mw_go mu_g155 (k := 1) (f1 := (1, [(0, .inr (.inr (some 80))), (1, .inl w)], [.inr (.inr (some 80))], H)) (C := []) rfl trivial ?_
  refine mw_cV (fun _ => rfl) (show mu_is H (some 80) 7 from h.1.is rfl) (pb_drop (d := d) (B := B) h) (fun H1 q1 => ?_)
  obtain ⟨hp1, qt1, qi1, qs1, qb1, qa1⟩ := q1
  have ht1 := (pt.refl m B H).trans qt1
  have ha1 : ab m H1 = (td (ab m H)) := qa1
  refine mw_go mu_g155 (k := 5) (f1 := (12, [(0, .inr (.inr (some 80))), (1, .inl w)], [.inl (71 : Int32), .inr (.inr (some 80))], (mu_si H1 80 6 w))) (C := [mu_is H1 (some 80) 7]) rfl (show mu_is H1 (some 80) 7 from hp1.1.is rfl) ?_
  have hp2 : ps m (mu_si H1 80 6 w) := hp1.si (by decide) (by decide)
  have ht2 : pt m B H (mu_si H1 80 6 w) := ht1.trans (pt.si hp1)
  have ha2 : ab m (mu_si H1 80 6 w) = (td (ab m H)) := (ab_si hp1.1 hp1.2.1).trans ha1
  have hb2 : ps_pot m (mu_si H1 80 6 w) + ps_mp (mu_i H1 80 6) = ps_pot m H1 + ps_mp w := ps_pot6 hp1 w
  have hc2 : ps_mp (mu_i H1 80 6) = ps_mp (mu_i H 80 6) := congrArg ps_mp (show mu_i H1 80 6 = (mu_i H 80 6) from (qi1 6))
  have hs2 : gi_sz (mu_si H1 80 6 w) 89 = gi_sz H1 89 := rfl
  have hi3_3 : mu_i (mu_si H1 80 6 w) 80 3 = (mu_i H 80 3) := (qi1 3)
  have hi3_4 : mu_i (mu_si H1 80 6 w) 80 4 = (mu_i H 80 4) := (qi1 4)
  have hi3_5 : mu_i (mu_si H1 80 6 w) 80 5 = (mu_i H 80 5) := (qi1 5)
  have hi3_7 : mu_i (mu_si H1 80 6 w) 80 7 = (mu_i H 80 7) := (qi1 7)
  have hi3_8 : mu_i (mu_si H1 80 6 w) 80 8 = (mu_i H 80 8) := (qi1 8)
  have hi3_9 : mu_i (mu_si H1 80 6 w) 80 9 = (mu_i H 80 9) := (qi1 9)
  have hi3_10 : mu_i (mu_si H1 80 6 w) 80 10 = (mu_i H 80 10) := (qi1 10)
  have hi3_11 : mu_i (mu_si H1 80 6 w) 80 11 = (mu_i H 80 11) := (qi1 11)
  refine mw_cI (fun _ => rfl) (show mu_is (mu_si H1 80 6 w) (some 80) 7 from hp2.1.is rfl) (pb_take (d := d) (B := B) hp2 (71 : Int32) (by decide)) (fun x4 H4 q4 => ?_)
  rcases q4 with ⟨rfl, rfl, qe4⟩ | ⟨rfl, hp4, qt4, qk4, qb4, qe4, qa4⟩
  · -- (0 : Int32)
    exact mw_of (fun _ => mu_ret rfl (Or.inl rfl) ⟨_, (mu_si H1 80 6 w), rfl, Or.inl ⟨rfl, hp2, ht2, by omega⟩⟩)
  · -- (1 : Int32)
    have ht4 := ht2.trans qt4
    have qs4 : gi_sz H4 89 = gi_sz (mu_si H1 80 6 w) 89 := qk4.2
    have ha4 : ab m H4 = (td (ab m H)) := qa4.trans (by rw [ha2])
    exact mw_of (fun _ => mu_ret rfl (Or.inr rfl) ⟨_, H4, rfl, Or.inr ⟨rfl, hp4, ht4, by omega, (qk4.1 6 (by decide)), ha4⟩⟩)
theorem pb_bin (w : Int32) : mu_TI (mu_D (d + 1)) 158 [.inl w] H (fun x H1 => (x = -1 ∧ H = H1) ∨ (∃ k, (((4 ≤ k ∧ k ≤ 8) ∨ (16 ≤ k ∧ k ≤ 26)) ∨ k = 30) ∧ x = nI k ∧ w < 114 ∧ H = H1)) := by
  refine mu_meth (M := mu_m158) rfl rfl ?_
  refine mw_ht (mu_fn_of (show [0].Nodup by decide)) ?_
  refine mw_go mu_g158 (k := 1) (f1 := (1, [(0, .inl w)], [.inl w], H)) (C := []) rfl trivial ?_
  refine mw_lsw rfl ⟨fun z => ?_, fun z => ?_, fun z => ?_, fun z => ?_, fun z => ?_, fun z => ?_, fun z => ?_, fun z => ?_, fun z => ?_, fun z => ?_, fun z => ?_, fun z => ?_, fun z => ?_, fun z => ?_, fun z => ?_, fun z => ?_, fun z => ?_, trivial⟩ ?_
  · -- 12: 155
    have h1 : w = (12 : Int32) := Int32.toInt_inj.mp (z.trans (by decide))
    refine mw_go mu_g158 (k := 1) (f1 := (157, [(0, .inl w)], [.inl (7 : Int32)], H)) (C := []) rfl trivial ?_
    exact mw_of (fun _ => mu_ret rfl trivial ⟨_, _, rfl, Or.inr ⟨7, by decide, rfl, (by rw [h1]; decide), rfl⟩⟩)
  · -- 22: 179
    have h2 : w = (22 : Int32) := Int32.toInt_inj.mp (z.trans (by decide))
    refine mw_go mu_g158 (k := 1) (f1 := (181, [(0, .inl w)], [.inl (30 : Int32)], H)) (C := []) rfl trivial ?_
    exact mw_of (fun _ => mu_ret rfl trivial ⟨_, _, rfl, Or.inr ⟨30, by decide, rfl, (by rw [h2]; decide), rfl⟩⟩)
  · -- 23: 194
    have h3 : w = (23 : Int32) := Int32.toInt_inj.mp (z.trans (by decide))
    refine mw_go mu_g158 (k := 1) (f1 := (196, [(0, .inl w)], [.inl (26 : Int32)], H)) (C := []) rfl trivial ?_
    exact mw_of (fun _ => mu_ret rfl trivial ⟨_, _, rfl, Or.inr ⟨26, by decide, rfl, (by rw [h3]; decide), rfl⟩⟩)
  · -- 75: 158
    have h4 : w = (75 : Int32) := Int32.toInt_inj.mp (z.trans (by decide))
    refine mw_go mu_g158 (k := 1) (f1 := (160, [(0, .inl w)], [.inl (8 : Int32)], H)) (C := []) rfl trivial ?_
    exact mw_of (fun _ => mu_ret rfl trivial ⟨_, _, rfl, Or.inr ⟨8, by decide, rfl, (by rw [h4]; decide), rfl⟩⟩)
  · -- 76: 152
    have h5 : w = (76 : Int32) := Int32.toInt_inj.mp (z.trans (by decide))
    refine mw_go mu_g158 (k := 1) (f1 := (154, [(0, .inl w)], [.inl (6 : Int32)], H)) (C := []) rfl trivial ?_
    exact mw_of (fun _ => mu_ret rfl trivial ⟨_, _, rfl, Or.inr ⟨6, by decide, rfl, (by rw [h5]; decide), rfl⟩⟩)
  · -- 77: 161
    have h6 : w = (77 : Int32) := Int32.toInt_inj.mp (z.trans (by decide))
    refine mw_go mu_g158 (k := 1) (f1 := (163, [(0, .inl w)], [.inl (16 : Int32)], H)) (C := []) rfl trivial ?_
    exact mw_of (fun _ => mu_ret rfl trivial ⟨_, _, rfl, Or.inr ⟨16, by decide, rfl, (by rw [h6]; decide), rfl⟩⟩)
  · -- 78: 167
    have h7 : w = (78 : Int32) := Int32.toInt_inj.mp (z.trans (by decide))
    refine mw_go mu_g158 (k := 1) (f1 := (169, [(0, .inl w)], [.inl (18 : Int32)], H)) (C := []) rfl trivial ?_
    exact mw_of (fun _ => mu_ret rfl trivial ⟨_, _, rfl, Or.inr ⟨18, by decide, rfl, (by rw [h7]; decide), rfl⟩⟩)
  · -- 79: 173
    have h8 : w = (79 : Int32) := Int32.toInt_inj.mp (z.trans (by decide))
    refine mw_go mu_g158 (k := 1) (f1 := (175, [(0, .inl w)], [.inl (20 : Int32)], H)) (C := []) rfl trivial ?_
    exact mw_of (fun _ => mu_ret rfl trivial ⟨_, _, rfl, Or.inr ⟨20, by decide, rfl, (by rw [h8]; decide), rfl⟩⟩)
  · -- 80: 182
    have h9 : w = (80 : Int32) := Int32.toInt_inj.mp (z.trans (by decide))
    refine mw_go mu_g158 (k := 1) (f1 := (184, [(0, .inl w)], [.inl (22 : Int32)], H)) (C := []) rfl trivial ?_
    exact mw_of (fun _ => mu_ret rfl trivial ⟨_, _, rfl, Or.inr ⟨22, by decide, rfl, (by rw [h9]; decide), rfl⟩⟩)
  · -- 81: 185
    have h10 : w = (81 : Int32) := Int32.toInt_inj.mp (z.trans (by decide))
    refine mw_go mu_g158 (k := 1) (f1 := (187, [(0, .inl w)], [.inl (23 : Int32)], H)) (C := []) rfl trivial ?_
    exact mw_of (fun _ => mu_ret rfl trivial ⟨_, _, rfl, Or.inr ⟨23, by decide, rfl, (by rw [h10]; decide), rfl⟩⟩)
  · -- 82: 188
    have h11 : w = (82 : Int32) := Int32.toInt_inj.mp (z.trans (by decide))
    refine mw_go mu_g158 (k := 1) (f1 := (190, [(0, .inl w)], [.inl (24 : Int32)], H)) (C := []) rfl trivial ?_
    exact mw_of (fun _ => mu_ret rfl trivial ⟨_, _, rfl, Or.inr ⟨24, by decide, rfl, (by rw [h11]; decide), rfl⟩⟩)
  · -- 83: 191
    have h12 : w = (83 : Int32) := Int32.toInt_inj.mp (z.trans (by decide))
    refine mw_go mu_g158 (k := 1) (f1 := (193, [(0, .inl w)], [.inl (25 : Int32)], H)) (C := []) rfl trivial ?_
    exact mw_of (fun _ => mu_ret rfl trivial ⟨_, _, rfl, Or.inr ⟨25, by decide, rfl, (by rw [h12]; decide), rfl⟩⟩)
  · -- 96: 150
    have h13 : w = (96 : Int32) := Int32.toInt_inj.mp (z.trans (by decide))
    refine mw_go mu_g158 (k := 1) (f1 := (151, [(0, .inl w)], [.inl (5 : Int32)], H)) (C := []) rfl trivial ?_
    exact mw_of (fun _ => mu_ret rfl trivial ⟨_, _, rfl, Or.inr ⟨5, by decide, rfl, (by rw [h13]; decide), rfl⟩⟩)
  · -- 99: 164
    have h14 : w = (99 : Int32) := Int32.toInt_inj.mp (z.trans (by decide))
    refine mw_go mu_g158 (k := 1) (f1 := (166, [(0, .inl w)], [.inl (17 : Int32)], H)) (C := []) rfl trivial ?_
    exact mw_of (fun _ => mu_ret rfl trivial ⟨_, _, rfl, Or.inr ⟨17, by decide, rfl, (by rw [h14]; decide), rfl⟩⟩)
  · -- 100: 170
    have h15 : w = (100 : Int32) := Int32.toInt_inj.mp (z.trans (by decide))
    refine mw_go mu_g158 (k := 1) (f1 := (172, [(0, .inl w)], [.inl (19 : Int32)], H)) (C := []) rfl trivial ?_
    exact mw_of (fun _ => mu_ret rfl trivial ⟨_, _, rfl, Or.inr ⟨19, by decide, rfl, (by rw [h15]; decide), rfl⟩⟩)
  · -- 101: 176
    have h16 : w = (101 : Int32) := Int32.toInt_inj.mp (z.trans (by decide))
    refine mw_go mu_g158 (k := 1) (f1 := (178, [(0, .inl w)], [.inl (21 : Int32)], H)) (C := []) rfl trivial ?_
    exact mw_of (fun _ => mu_ret rfl trivial ⟨_, _, rfl, Or.inr ⟨21, by decide, rfl, (by rw [h16]; decide), rfl⟩⟩)
  · -- 102: 148
    have h17 : w = (102 : Int32) := Int32.toInt_inj.mp (z.trans (by decide))
    refine mw_go mu_g158 (k := 1) (f1 := (149, [(0, .inl w)], [.inl (4 : Int32)], H)) (C := []) rfl trivial ?_
    exact mw_of (fun _ => mu_ret rfl trivial ⟨_, _, rfl, Or.inr ⟨4, by decide, rfl, (by rw [h17]; decide), rfl⟩⟩)
  · -- None: 197
    refine mw_go mu_g158 (k := 1) (f1 := (198, [(0, .inl w)], [.inl (-1 : Int32)], H)) (C := []) rfl trivial ?_
    exact mw_of (fun _ => mu_ret rfl trivial ⟨_, _, rfl, Or.inl ⟨rfl, rfl⟩⟩)
end ParserLoops2
