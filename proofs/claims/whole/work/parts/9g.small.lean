/-! THE PARSER ONCE MORE: its small methods, with what they write -/
section ParserSmall2
variable {H : mu_H} {m B d : Nat}
theorem fu_fu {s : Ts} {t t' : Tb} {j : Nat} : fu (fu s j t) j t' = fu s j t' := by
  funext i
  unfold fu
  split <;> rfl
theorem tu_two {H1 : mu_H} {c v : Int32} (h : ps m H) (h1 : ps m H1) (hs : gi_sz H1 89 = gi_sz H 89) : tx 11 (tx 11 (ab m H) (mu_i H 89 2 - 1) 0 c) (mu_i H1 89 2 - 1) 1 v = tu (ab m H) c v := by
  have e1 : mu_i H1 89 2 = nI (gi_sz H1 89) := (h1.1.w (r := 89) (W := 2) rfl).2.2.2.1
  have e2 : mu_i H 89 2 = nI (gi_sz H 89) := (h.1.w (r := 89) (W := 2) rfl).2.2.2.1
  rw [e1, hs, ← e2]
  unfold tx
  rw [fu_at, fu_fu]
  exact tu_set h rfl
theorem st_from {H1 : mu_H} {c v : Int32} (h : ps m H) (h1 : ps m H1) (e : ab m H1 = tp 11 (ab m H) c v 0 0) : mu_i (mu_si H1 80 8 0) (m + 1) 2 = mu_i H (m + 1) 2 := by
  rw [mu_i_si, if_neg (fun z => by have := h.2.1; omega)]
  exact (sz_n h1 e (j := 0) (by decide)).trans (sz_n h rfl (j := 0) (by decide)).symm
theorem pb_adv (h : ps m H) : mu_TV (mu_D (d + 2)) 44 [.inr (.inr (some 80))] H (fun H1 => (ps m H1 ∧ pt m B H H1 ∧ pk H H1 ∧ ps_pot m H1 ≤ ps_pot m H ∧ (mu_i H 80 4 < 114 → ps_pot m H1 + 12 ≤ ps_pot m H)) ∧ ab m H1 = ab m H) := by
  refine mu_meth (M := mu_m44) rfl rfl ?_
  refine mw_ht (mu_fn_of (show [0].Nodup by decide)) ?_
  refine mw_go mu_g44 (k := 7) (f1 := (11, [(0, .inr (.inr (some 80)))], [.inr (.inr (mu_r H 80 0)), .inl ((mu_i H 80 3) + (1 : Int32)), .inr (.inr (some 80))], H)) (C := [mu_is H (some 80) 7, mu_is H (some 80) 7]) rfl (show (mu_is H (some 80) 7) ∧ (mu_is H (some 80) 7) from ⟨h.1.is rfl, h.1.is rfl⟩) ?_
  rw [(h.1.r (p := 80) (j := 0) (q := 81) rfl)]
  refine mw_go mu_g44 (k := 1) (f1 := (14, [(0, .inr (.inr (some 80)))], [.inr (.inr (mu_r H 81 5)), .inl ((mu_i H 80 3) + (1 : Int32)), .inr (.inr (some 80))], H)) (C := [mu_is H (some 81) 4]) rfl (show mu_is H (some 81) 4 from h.1.is rfl) ?_
  rw [(h.1.r (p := 81) (j := 5) (q := 82) rfl)]
  refine mw_go mu_g44 (k := 3) (f1 := (19, [(0, .inr (.inr (some 80)))], [.inl ((mu_i H 82 2) - (1 : Int32)), .inl ((mu_i H 80 3) + (1 : Int32)), .inr (.inr (some 80))], H)) (C := [mu_is H (some 82) 10]) rfl (show mu_is H (some 82) 10 from h.1.is rfl) ?_
  refine mw_cIe (fun _ => rfl) trivial (mu_min_ok (d := d) ((mu_i H 80 3) + (1 : Int32)) ((mu_i H 82 2) - (1 : Int32))) ?_
  refine mw_go mu_g44 (k := 4) (f1 := (30, [(0, .inr (.inr (some 80)))], [.inr (.inr (mu_r H 80 0)), .inr (.inr (some 80))], (mu_si H 80 3 (mu_min ((mu_i H 80 3) + (1 : Int32)) ((mu_i H 82 2) - (1 : Int32)))))) (C := [mu_is H (some 80) 7, mu_is (mu_si H 80 3 (mu_min ((mu_i H 80 3) + (1 : Int32)) ((mu_i H 82 2) - (1 : Int32)))) (some 80) 7]) rfl (show (mu_is H (some 80) 7) ∧ (mu_is (mu_si H 80 3 (mu_min ((mu_i H 80 3) + (1 : Int32)) ((mu_i H 82 2) - (1 : Int32)))) (some 80) 7) from ⟨h.1.is rfl, h.1.is rfl⟩) ?_
  rw [(h.1.r (p := 80) (j := 0) (q := 81) rfl)]
  refine mw_go mu_g44 (k := 1) (f1 := (33, [(0, .inr (.inr (some 80)))], [.inr (.inr (mu_r H 81 5)), .inr (.inr (some 80))], (mu_si H 80 3 (mu_min ((mu_i H 80 3) + (1 : Int32)) ((mu_i H 82 2) - (1 : Int32)))))) (C := [mu_is (mu_si H 80 3 (mu_min ((mu_i H 80 3) + (1 : Int32)) ((mu_i H 82 2) - (1 : Int32)))) (some 81) 4]) rfl (show mu_is (mu_si H 80 3 (mu_min ((mu_i H 80 3) + (1 : Int32)) ((mu_i H 82 2) - (1 : Int32)))) (some 81) 4 from h.1.is rfl) ?_
  rw [(h.1.r (p := 81) (j := 5) (q := 82) rfl)]
  refine mw_go mu_g44 (k := 3) (f1 := (38, [(0, .inr (.inr (some 80)))], [.inl (0 : Int32), .inl (mu_min ((mu_i H 80 3) + (1 : Int32)) ((mu_i H 82 2) - (1 : Int32))), .inr (.inr (some 82)), .inr (.inr (some 80))], (mu_si H 80 3 (mu_min ((mu_i H 80 3) + (1 : Int32)) ((mu_i H 82 2) - (1 : Int32)))))) (C := [mu_is (mu_si H 80 3 (mu_min ((mu_i H 80 3) + (1 : Int32)) ((mu_i H 82 2) - (1 : Int32)))) (some 80) 7]) rfl (show mu_is (mu_si H 80 3 (mu_min ((mu_i H 80 3) + (1 : Int32)) ((mu_i H 82 2) - (1 : Int32)))) (some 80) 7 from h.1.is rfl) ?_
  refine mw_cIe (fun _ => rfl) (show mu_is H (some 82) 10 from h.1.is rfl) (gi_get_ok (d := d) (H := (mu_si H 80 3 (mu_min ((mu_i H 80 3) + (1 : Int32)) ((mu_i H 82 2) - (1 : Int32))))) (h.1.si (k := 7) rfl rfl) (r := 82) (W := 3) rfl (mu_min ((mu_i H 80 3) + (1 : Int32)) ((mu_i H 82 2) - (1 : Int32))) (j := 0) (by decide)) ?_
  refine mw_go mu_g44 (k := 4) (f1 := (49, [(0, .inr (.inr (some 80)))], [.inr (.inr (mu_r H 80 0)), .inr (.inr (some 80))], (mu_si (mu_si H 80 3 (mu_min ((mu_i H 80 3) + (1 : Int32)) ((mu_i H 82 2) - (1 : Int32)))) 80 4 (rw_get (mu_si H 80 3 (mu_min ((mu_i H 80 3) + (1 : Int32)) ((mu_i H 82 2) - (1 : Int32)))) 82 3 (gi_sz (mu_si H 80 3 (mu_min ((mu_i H 80 3) + (1 : Int32)) ((mu_i H 82 2) - (1 : Int32)))) 82) (mu_min ((mu_i H 80 3) + (1 : Int32)) ((mu_i H 82 2) - (1 : Int32))) 0)))) (C := [mu_is (mu_si H 80 3 (mu_min ((mu_i H 80 3) + (1 : Int32)) ((mu_i H 82 2) - (1 : Int32)))) (some 80) 7, mu_is (mu_si (mu_si H 80 3 (mu_min ((mu_i H 80 3) + (1 : Int32)) ((mu_i H 82 2) - (1 : Int32)))) 80 4 (rw_get (mu_si H 80 3 (mu_min ((mu_i H 80 3) + (1 : Int32)) ((mu_i H 82 2) - (1 : Int32)))) 82 3 (gi_sz (mu_si H 80 3 (mu_min ((mu_i H 80 3) + (1 : Int32)) ((mu_i H 82 2) - (1 : Int32)))) 82) (mu_min ((mu_i H 80 3) + (1 : Int32)) ((mu_i H 82 2) - (1 : Int32))) 0)) (some 80) 7]) rfl (show (mu_is (mu_si H 80 3 (mu_min ((mu_i H 80 3) + (1 : Int32)) ((mu_i H 82 2) - (1 : Int32)))) (some 80) 7) ∧ (mu_is (mu_si (mu_si H 80 3 (mu_min ((mu_i H 80 3) + (1 : Int32)) ((mu_i H 82 2) - (1 : Int32)))) 80 4 (rw_get (mu_si H 80 3 (mu_min ((mu_i H 80 3) + (1 : Int32)) ((mu_i H 82 2) - (1 : Int32)))) 82 3 (gi_sz (mu_si H 80 3 (mu_min ((mu_i H 80 3) + (1 : Int32)) ((mu_i H 82 2) - (1 : Int32)))) 82) (mu_min ((mu_i H 80 3) + (1 : Int32)) ((mu_i H 82 2) - (1 : Int32))) 0)) (some 80) 7) from ⟨h.1.is rfl, h.1.is rfl⟩) ?_
  rw [(h.1.r (p := 80) (j := 0) (q := 81) rfl)]
  refine mw_go mu_g44 (k := 1) (f1 := (52, [(0, .inr (.inr (some 80)))], [.inr (.inr (mu_r H 81 5)), .inr (.inr (some 80))], (mu_si (mu_si H 80 3 (mu_min ((mu_i H 80 3) + (1 : Int32)) ((mu_i H 82 2) - (1 : Int32)))) 80 4 (rw_get (mu_si H 80 3 (mu_min ((mu_i H 80 3) + (1 : Int32)) ((mu_i H 82 2) - (1 : Int32)))) 82 3 (gi_sz (mu_si H 80 3 (mu_min ((mu_i H 80 3) + (1 : Int32)) ((mu_i H 82 2) - (1 : Int32)))) 82) (mu_min ((mu_i H 80 3) + (1 : Int32)) ((mu_i H 82 2) - (1 : Int32))) 0)))) (C := [mu_is (mu_si (mu_si H 80 3 (mu_min ((mu_i H 80 3) + (1 : Int32)) ((mu_i H 82 2) - (1 : Int32)))) 80 4 (rw_get (mu_si H 80 3 (mu_min ((mu_i H 80 3) + (1 : Int32)) ((mu_i H 82 2) - (1 : Int32)))) 82 3 (gi_sz (mu_si H 80 3 (mu_min ((mu_i H 80 3) + (1 : Int32)) ((mu_i H 82 2) - (1 : Int32)))) 82) (mu_min ((mu_i H 80 3) + (1 : Int32)) ((mu_i H 82 2) - (1 : Int32))) 0)) (some 81) 4]) rfl (show mu_is (mu_si (mu_si H 80 3 (mu_min ((mu_i H 80 3) + (1 : Int32)) ((mu_i H 82 2) - (1 : Int32)))) 80 4 (rw_get (mu_si H 80 3 (mu_min ((mu_i H 80 3) + (1 : Int32)) ((mu_i H 82 2) - (1 : Int32)))) 82 3 (gi_sz (mu_si H 80 3 (mu_min ((mu_i H 80 3) + (1 : Int32)) ((mu_i H 82 2) - (1 : Int32)))) 82) (mu_min ((mu_i H 80 3) + (1 : Int32)) ((mu_i H 82 2) - (1 : Int32))) 0)) (some 81) 4 from h.1.is rfl) ?_
  rw [(h.1.r (p := 81) (j := 5) (q := 82) rfl)]
  refine mw_go mu_g44 (k := 3) (f1 := (57, [(0, .inr (.inr (some 80)))], [.inl (1 : Int32), .inl (mu_min ((mu_i H 80 3) + (1 : Int32)) ((mu_i H 82 2) - (1 : Int32))), .inr (.inr (some 82)), .inr (.inr (some 80))], (mu_si (mu_si H 80 3 (mu_min ((mu_i H 80 3) + (1 : Int32)) ((mu_i H 82 2) - (1 : Int32)))) 80 4 (rw_get (mu_si H 80 3 (mu_min ((mu_i H 80 3) + (1 : Int32)) ((mu_i H 82 2) - (1 : Int32)))) 82 3 (gi_sz (mu_si H 80 3 (mu_min ((mu_i H 80 3) + (1 : Int32)) ((mu_i H 82 2) - (1 : Int32)))) 82) (mu_min ((mu_i H 80 3) + (1 : Int32)) ((mu_i H 82 2) - (1 : Int32))) 0)))) (C := [mu_is (mu_si (mu_si H 80 3 (mu_min ((mu_i H 80 3) + (1 : Int32)) ((mu_i H 82 2) - (1 : Int32)))) 80 4 (rw_get (mu_si H 80 3 (mu_min ((mu_i H 80 3) + (1 : Int32)) ((mu_i H 82 2) - (1 : Int32)))) 82 3 (gi_sz (mu_si H 80 3 (mu_min ((mu_i H 80 3) + (1 : Int32)) ((mu_i H 82 2) - (1 : Int32)))) 82) (mu_min ((mu_i H 80 3) + (1 : Int32)) ((mu_i H 82 2) - (1 : Int32))) 0)) (some 80) 7]) rfl (show mu_is (mu_si (mu_si H 80 3 (mu_min ((mu_i H 80 3) + (1 : Int32)) ((mu_i H 82 2) - (1 : Int32)))) 80 4 (rw_get (mu_si H 80 3 (mu_min ((mu_i H 80 3) + (1 : Int32)) ((mu_i H 82 2) - (1 : Int32)))) 82 3 (gi_sz (mu_si H 80 3 (mu_min ((mu_i H 80 3) + (1 : Int32)) ((mu_i H 82 2) - (1 : Int32)))) 82) (mu_min ((mu_i H 80 3) + (1 : Int32)) ((mu_i H 82 2) - (1 : Int32))) 0)) (some 80) 7 from h.1.is rfl) ?_
  refine mw_cIe (fun _ => rfl) (show mu_is H (some 82) 10 from h.1.is rfl) (gi_get_ok (d := d) (H := (mu_si (mu_si H 80 3 (mu_min ((mu_i H 80 3) + (1 : Int32)) ((mu_i H 82 2) - (1 : Int32)))) 80 4 (rw_get (mu_si H 80 3 (mu_min ((mu_i H 80 3) + (1 : Int32)) ((mu_i H 82 2) - (1 : Int32)))) 82 3 (gi_sz (mu_si H 80 3 (mu_min ((mu_i H 80 3) + (1 : Int32)) ((mu_i H 82 2) - (1 : Int32)))) 82) (mu_min ((mu_i H 80 3) + (1 : Int32)) ((mu_i H 82 2) - (1 : Int32))) 0))) ((h.1.si (k := 7) rfl rfl).si (k := 7) rfl rfl) (r := 82) (W := 3) rfl (mu_min ((mu_i H 80 3) + (1 : Int32)) ((mu_i H 82 2) - (1 : Int32))) (j := 1) (by decide)) ?_
  refine mw_go mu_g44 (k := 1) (f1 := (63, [(0, .inr (.inr (some 80)))], [], (mu_si (mu_si (mu_si H 80 3 (mu_min ((mu_i H 80 3) + (1 : Int32)) ((mu_i H 82 2) - (1 : Int32)))) 80 4 (rw_get (mu_si H 80 3 (mu_min ((mu_i H 80 3) + (1 : Int32)) ((mu_i H 82 2) - (1 : Int32)))) 82 3 (gi_sz (mu_si H 80 3 (mu_min ((mu_i H 80 3) + (1 : Int32)) ((mu_i H 82 2) - (1 : Int32)))) 82) (mu_min ((mu_i H 80 3) + (1 : Int32)) ((mu_i H 82 2) - (1 : Int32))) 0)) 80 5 (rw_get (mu_si (mu_si H 80 3 (mu_min ((mu_i H 80 3) + (1 : Int32)) ((mu_i H 82 2) - (1 : Int32)))) 80 4 (rw_get (mu_si H 80 3 (mu_min ((mu_i H 80 3) + (1 : Int32)) ((mu_i H 82 2) - (1 : Int32)))) 82 3 (gi_sz (mu_si H 80 3 (mu_min ((mu_i H 80 3) + (1 : Int32)) ((mu_i H 82 2) - (1 : Int32)))) 82) (mu_min ((mu_i H 80 3) + (1 : Int32)) ((mu_i H 82 2) - (1 : Int32))) 0)) 82 3 (gi_sz (mu_si (mu_si H 80 3 (mu_min ((mu_i H 80 3) + (1 : Int32)) ((mu_i H 82 2) - (1 : Int32)))) 80 4 (rw_get (mu_si H 80 3 (mu_min ((mu_i H 80 3) + (1 : Int32)) ((mu_i H 82 2) - (1 : Int32)))) 82 3 (gi_sz (mu_si H 80 3 (mu_min ((mu_i H 80 3) + (1 : Int32)) ((mu_i H 82 2) - (1 : Int32)))) 82) (mu_min ((mu_i H 80 3) + (1 : Int32)) ((mu_i H 82 2) - (1 : Int32))) 0)) 82) (mu_min ((mu_i H 80 3) + (1 : Int32)) ((mu_i H 82 2) - (1 : Int32))) 1)))) (C := [mu_is (mu_si (mu_si H 80 3 (mu_min ((mu_i H 80 3) + (1 : Int32)) ((mu_i H 82 2) - (1 : Int32)))) 80 4 (rw_get (mu_si H 80 3 (mu_min ((mu_i H 80 3) + (1 : Int32)) ((mu_i H 82 2) - (1 : Int32)))) 82 3 (gi_sz (mu_si H 80 3 (mu_min ((mu_i H 80 3) + (1 : Int32)) ((mu_i H 82 2) - (1 : Int32)))) 82) (mu_min ((mu_i H 80 3) + (1 : Int32)) ((mu_i H 82 2) - (1 : Int32))) 0)) (some 80) 7]) rfl (show mu_is (mu_si (mu_si H 80 3 (mu_min ((mu_i H 80 3) + (1 : Int32)) ((mu_i H 82 2) - (1 : Int32)))) 80 4 (rw_get (mu_si H 80 3 (mu_min ((mu_i H 80 3) + (1 : Int32)) ((mu_i H 82 2) - (1 : Int32)))) 82 3 (gi_sz (mu_si H 80 3 (mu_min ((mu_i H 80 3) + (1 : Int32)) ((mu_i H 82 2) - (1 : Int32)))) 82) (mu_min ((mu_i H 80 3) + (1 : Int32)) ((mu_i H 82 2) - (1 : Int32))) 0)) (some 80) 7 from h.1.is rfl) ?_
  exact mw_of (fun _ => mu_ret rfl trivial ⟨_, rfl, ps_adv h rfl rfl, (ab_si ((h.1.si (k := 7) rfl rfl).si (k := 7) rfl rfl) h.2.1).trans ((ab_si (h.1.si (k := 7) rfl rfl) h.2.1).trans (ab_si h.1 h.2.1))⟩)
theorem pb_take (h : ps m H) (w : Int32) (hw : w < 114) : mu_TI (mu_D (d + 3)) 48 [.inr (.inr (some 80)), .inl w] H (fun x H1 => (x = 0 ∧ H = H1 ∧ ¬ mu_i H 80 4 = w) ∨ (x = 1 ∧ ps m H1 ∧ pt m B H H1 ∧ pk H H1 ∧ ps_pot m H1 + 12 ≤ ps_pot m H ∧ mu_i H 80 4 = w ∧ ab m H1 = ab m H)) := by
  refine mu_meth (M := mu_m48) rfl rfl ?_
  refine mw_ht (mu_fn_of (show [0, 1].Nodup by decide)) ?_
  refine mw_go mu_g48 (k := 3) (f1 := (5, [(0, .inr (.inr (some 80))), (1, .inl w)], [.inl w, .inl (mu_i H 80 4)], H)) (C := [mu_is H (some 80) 7]) rfl (show mu_is H (some 80) 7 from h.1.is rfl) ?_
  refine mw_if (P := (mu_i H 80 4) = w) (a := 10) (b := 8) (fun _ => rfl) trivial (fun h1 => ?_) (fun h1 => ?_)
  · -- 10: (mu_i H 80 4) = w
    refine mw_go mu_g48 (k := 1) (f1 := (11, [(0, .inr (.inr (some 80))), (1, .inl w)], [.inr (.inr (some 80))], H)) (C := []) rfl trivial ?_
    refine mw_cV (fun _ => rfl) (show mu_is H (some 80) 7 from h.1.is rfl) (pb_adv (d := d) (B := B) h) (fun H2 q2 => ?_)
    obtain ⟨⟨hp2, qt2, qk2, qb2, qc2⟩, qa2⟩ := q2
    have ht2 := (pt.refl m B H).trans qt2
    have qs2 : gi_sz H2 89 = gi_sz H 89 := qk2.2
    have ha2 : ab m H2 = (ab m H) := qa2
    have qd2 := qc2 (show mu_i H 80 4 < 114 from (show (mu_i H 80 4) < 114 from (by rw [h1]; exact hw)))
    refine mw_go mu_g48 (k := 1) (f1 := (15, [(0, .inr (.inr (some 80))), (1, .inl w)], [.inl (1 : Int32)], H2)) (C := []) rfl trivial ?_
    exact mw_of (fun _ => mu_ret rfl (Or.inr rfl) ⟨_, _, rfl, Or.inr ⟨rfl, hp2, qt2, qk2, qd2, h1, ha2⟩⟩)
  · -- 8: not (mu_i H 80 4) = w
    refine mw_go mu_g48 (k := 1) (f1 := (9, [(0, .inr (.inr (some 80))), (1, .inl w)], [.inl (0 : Int32)], H)) (C := []) rfl trivial ?_
    exact mw_of (fun _ => mu_ret rfl (Or.inl rfl) ⟨_, _, rfl, Or.inl ⟨rfl, rfl, h1⟩⟩)
theorem pb_push (h : ps m H) (hBB : B ≤ 1000000) (hB : ps_pot m H ≤ B + 100) (w v : Int32) (hw : ∃ k, k < 54 ∧ w = nI k) : mu_TV (mu_D (d + 4)) 148 [.inr (.inr (some 80)), .inl w, .inl v] H (fun H1 => ps m H1 ∧ pt m B H H1 ∧ (∀ i, mu_i H1 80 i = mu_i H 80 i) ∧ gi_sz H1 89 = gi_sz H 89 + 1 ∧ ps_pot m H1 = ps_pot m H + 4 ∧ ab m H1 = tp 11 (ab m H) w v 0 0) := by
  obtain ⟨k, hk, rfl⟩ := hw
  refine mu_meth (M := mu_m148) rfl rfl ?_
  refine mw_ht (mu_fn_of (show [0, 1, 2].Nodup by decide)) ?_
  refine mw_go mu_g148 (k := 2) (f1 := (4, [(0, .inr (.inr (some 80))), (1, .inl (nI k)), (2, .inl v)], [.inr (.inr (mu_r H 80 1))], H)) (C := [mu_is H (some 80) 7]) rfl (show mu_is H (some 80) 7 from h.1.is rfl) ?_
  rw [(h.1.r (p := 80) (j := 1) (q := 89) rfl)]
  refine mw_go mu_g148 (k := 4) (f1 := (8, [(0, .inr (.inr (some 80))), (1, .inl (nI k)), (2, .inl v)], [.inl (0 : Int32), .inl (0 : Int32), .inl v, .inl (nI k), .inr (.inr (some 89))], H)) (C := []) rfl trivial ?_
  refine mw_cI (fun _ => rfl) (show mu_is H (some 89) 10 from h.1.is rfl) (pb_put11 (d := d) (B := B) h (by omega) (by omega) hk v (0 : Int32) (0 : Int32)) (fun x1 H1 q1 => ?_)
  obtain ⟨hp1, qt1, qi1, qs1, qb1, qa1⟩ := q1
  have ht1 := (pt.refl m B H).trans qt1
  have ha1 : ab m H1 = (tp 11 (ab m H) (nI k) v (0 : Int32) (0 : Int32)) := qa1
  refine mw_go mu_g148 (k := 1) (f1 := (12, [(0, .inr (.inr (some 80))), (1, .inl (nI k)), (2, .inl v)], [], H1)) (C := []) rfl trivial ?_
  exact mw_of (fun _ => mu_ret rfl trivial ⟨_, rfl, hp1, qt1, qi1, qs1, qb1, ha1⟩)
theorem pb_emit (h : ps m H) (hBB : B ≤ 1000000) (hB : ps_pot m H ≤ B + 100) (w v : Int32) : mu_TV (mu_D (d + 4)) 150 [.inr (.inr (some 80)), .inl w, .inl v] H (fun H1 => ps m H1 ∧ pt m B H H1 ∧ (∀ i, mu_i H1 80 i = mu_i H 80 i) ∧ gi_sz H1 89 = gi_sz H 89 ∧ ps_pot m H1 = ps_pot m H + 2 ∧ ab m H1 = tp 0 (ab m H) w v 0 0) := by
  refine mu_meth (M := mu_m150) rfl rfl ?_
  refine mw_ht (mu_fn_of (show [0, 1, 2].Nodup by decide)) ?_
  refine mw_go mu_g150 (k := 2) (f1 := (4, [(0, .inr (.inr (some 80))), (1, .inl w), (2, .inl v)], [.inr (.inr (mu_r H 80 2))], H)) (C := [mu_is H (some 80) 7]) rfl (show mu_is H (some 80) 7 from h.1.is rfl) ?_
  rw [h.m80]
  refine mw_go mu_g150 (k := 1) (f1 := (7, [(0, .inr (.inr (some 80))), (1, .inl w), (2, .inl v)], [.inr (.inr (mu_r H m 0))], H)) (C := [mu_is H (some m) 6]) rfl (show mu_is H (some m) 6 from h.im) ?_
  rw [h.r0]
  refine mw_go mu_g150 (k := 4) (f1 := (11, [(0, .inr (.inr (some 80))), (1, .inl w), (2, .inl v)], [.inl (0 : Int32), .inl (0 : Int32), .inl v, .inl w, .inr (.inr (some (m + 1)))], H)) (C := []) rfl trivial ?_
  refine mw_cI (fun _ => rfl) (show mu_is H (some (m + 1)) 10 from h.i0) (pb_put0 (d := d) (B := B) h (by omega) w v (0 : Int32) (0 : Int32)) (fun x1 H1 q1 => ?_)
  obtain ⟨hp1, qt1, qx1, qi1, qs1, qb1, qa1⟩ := q1
  have ht1 := (pt.refl m B H).trans qt1
  have ha1 : ab m H1 = (tp 0 (ab m H) w v (0 : Int32) (0 : Int32)) := qa1
  refine mw_go mu_g150 (k := 1) (f1 := (15, [(0, .inr (.inr (some 80))), (1, .inl w), (2, .inl v)], [], H1)) (C := []) rfl trivial ?_
  exact mw_of (fun _ => mu_ret rfl trivial ⟨_, rfl, hp1, qt1, qi1, qs1, qb1, ha1⟩)
theorem pb_drop (h : ps m H) : mu_TV (mu_D (d + 3)) 154 [.inr (.inr (some 80))] H (fun H1 => ps m H1 ∧ pt m B H H1 ∧ (∀ i, mu_i H1 80 i = mu_i H 80 i) ∧ gi_sz H1 89 = gi_sz H 89 - 1 ∧ ps_pot m H1 + 4 * (gi_sz H 89 - (gi_sz H 89 - 1)) = ps_pot m H ∧ ab m H1 = td (ab m H)) := by
  refine mu_meth (M := mu_m154) rfl rfl ?_
  refine mw_ht (mu_fn_of (show [0].Nodup by decide)) ?_
  refine mw_go mu_g154 (k := 2) (f1 := (4, [(0, .inr (.inr (some 80)))], [.inr (.inr (mu_r H 80 1))], H)) (C := [mu_is H (some 80) 7]) rfl (show mu_is H (some 80) 7 from h.1.is rfl) ?_
  rw [(h.1.r (p := 80) (j := 1) (q := 89) rfl)]
  refine mw_go mu_g154 (k := 2) (f1 := (8, [(0, .inr (.inr (some 80)))], [.inr (.inr (mu_r H 80 1)), .inr (.inr (some 89))], H)) (C := [mu_is H (some 80) 7]) rfl (show mu_is H (some 80) 7 from h.1.is rfl) ?_
  rw [(h.1.r (p := 80) (j := 1) (q := 89) rfl)]
  refine mw_go mu_g154 (k := 3) (f1 := (13, [(0, .inr (.inr (some 80)))], [.inl ((mu_i H 89 2) - (1 : Int32)), .inr (.inr (some 89))], H)) (C := [mu_is H (some 89) 10]) rfl (show mu_is H (some 89) 10 from h.1.is rfl) ?_
  refine mw_cV (fun _ => rfl) (show mu_is H (some 89) 10 from h.1.is rfl) (rw_cut_ok (d := d) (h.1.w (r := 89) (W := 2) rfl) ((mu_i H 89 2) - (1 : Int32))) (fun H1 q1 => ?_)
  have qi1 : ∀ i, mu_i H1 80 i = mu_i H 80 i := fun i => by rw [q1]; rfl
  have qa1 : ab m H1 = td (ab m H) := by rw [q1]; exact ab_cut2 h
  obtain ⟨hp1, qt1, qs1, qb1⟩ := ps_cut (B := B) h
  rw [← q1] at hp1 qt1 qs1 qb1
  have ht1 := (pt.refl m B H).trans qt1
  have ha1 : ab m H1 = (td (ab m H)) := qa1
  exact mw_of (fun _ => mu_ret rfl trivial ⟨_, rfl, hp1, qt1, qi1, qs1, qb1, ha1⟩)
theorem pb_turn (h : ps m H) (c v w : Int32) (hc : ∃ k, k < 54 ∧ c = nI k) : mu_TI (mu_D (d + 2)) 157 [.inr (.inr (some 80)), .inl c, .inl v, .inl w] H (fun x H1 => x = 1 ∧ ps m H1 ∧ pt m B H H1 ∧ (∀ j, j ≠ 6 → mu_i H1 80 j = mu_i H 80 j) ∧ gi_sz H1 89 = gi_sz H 89 ∧ ps_pot m H1 + ps_mp (mu_i H 80 6) = ps_pot m H + ps_mp w ∧ mu_i H1 80 6 = w ∧ ab m H1 = tu (ab m H) c v) := by
  refine mu_meth (M := mu_m157) rfl rfl ?_
  refine mw_ht (mu_fn_of (show [0, 1, 2, 3].Nodup by decide)) ?_
  refine mw_go mu_g157 (k := 2) (f1 := (4, [(0, .inr (.inr (some 80))), (1, .inl c), (2, .inl v), (3, .inl w)], [.inr (.inr (mu_r H 80 1))], H)) (C := [mu_is H (some 80) 7]) rfl (show mu_is H (some 80) 7 from h.1.is rfl) ?_
  rw [(h.1.r (p := 80) (j := 1) (q := 89) rfl)]
  refine mw_go mu_g157 (k := 2) (f1 := (8, [(0, .inr (.inr (some 80))), (1, .inl c), (2, .inl v), (3, .inl w)], [.inr (.inr (mu_r H 80 1)), .inr (.inr (some 89))], H)) (C := [mu_is H (some 80) 7]) rfl (show mu_is H (some 80) 7 from h.1.is rfl) ?_
  rw [(h.1.r (p := 80) (j := 1) (q := 89) rfl)]
  refine mw_go mu_g157 (k := 5) (f1 := (15, [(0, .inr (.inr (some 80))), (1, .inl c), (2, .inl v), (3, .inl w)], [.inl c, .inl (0 : Int32), .inl ((mu_i H 89 2) - (1 : Int32)), .inr (.inr (some 89))], H)) (C := [mu_is H (some 89) 10]) rfl (show mu_is H (some 89) 10 from h.1.is rfl) ?_
  refine mw_cV (fun _ => rfl) (show mu_is H (some 89) 10 from h.1.is rfl) (gi_set_ok (d := d) h.1 (r := 89) (W := 2) rfl ((mu_i H 89 2) - (1 : Int32)) c (j := 0) (by decide)) (fun H1 q1 => ?_)
  have qa1 : ab m H1 = tx 11 (ab m H) ((mu_i H 89 2) - (1 : Int32)) 0 c := by rw [q1]; exact ab_set h.1 h.2.1 (j := 11) (by decide)
  obtain ⟨hp1, qt1, qi1, qs1, qb1⟩ := ps_set89 (B := B) h (j := 0) (row := ((mu_i H 89 2) - (1 : Int32))) (v := c) (by decide) (fun _ => hc)
  rw [← q1] at hp1 qt1 qi1 qs1 qb1
  have ht1 := (pt.refl m B H).trans qt1
  have ha1 : ab m H1 = (tx 11 (ab m H) ((mu_i H 89 2) - (1 : Int32)) 0 c) := qa1
  refine mw_go mu_g157 (k := 2) (f1 := (22, [(0, .inr (.inr (some 80))), (1, .inl c), (2, .inl v), (3, .inl w)], [.inr (.inr (mu_r H1 80 1))], H1)) (C := [mu_is H1 (some 80) 7]) rfl (show mu_is H1 (some 80) 7 from hp1.1.is rfl) ?_
  rw [(hp1.1.r (p := 80) (j := 1) (q := 89) rfl)]
  refine mw_go mu_g157 (k := 2) (f1 := (26, [(0, .inr (.inr (some 80))), (1, .inl c), (2, .inl v), (3, .inl w)], [.inr (.inr (mu_r H1 80 1)), .inr (.inr (some 89))], H1)) (C := [mu_is H1 (some 80) 7]) rfl (show mu_is H1 (some 80) 7 from hp1.1.is rfl) ?_
  rw [(hp1.1.r (p := 80) (j := 1) (q := 89) rfl)]
  refine mw_go mu_g157 (k := 5) (f1 := (33, [(0, .inr (.inr (some 80))), (1, .inl c), (2, .inl v), (3, .inl w)], [.inl v, .inl (1 : Int32), .inl ((mu_i H1 89 2) - (1 : Int32)), .inr (.inr (some 89))], H1)) (C := [mu_is H1 (some 89) 10]) rfl (show mu_is H1 (some 89) 10 from hp1.1.is rfl) ?_
  refine mw_cV (fun _ => rfl) (show mu_is H1 (some 89) 10 from hp1.1.is rfl) (gi_set_ok (d := d) hp1.1 (r := 89) (W := 2) rfl ((mu_i H1 89 2) - (1 : Int32)) v (j := 1) (by decide)) (fun H2 q2 => ?_)
  have qa2 : ab m H2 = tx 11 (ab m H1) ((mu_i H1 89 2) - (1 : Int32)) 1 v := by rw [q2]; exact ab_set hp1.1 hp1.2.1 (j := 11) (by decide)
  obtain ⟨hp2, qt2, qi2, qs2, qb2⟩ := ps_set89 (B := B) hp1 (j := 1) (row := ((mu_i H1 89 2) - (1 : Int32))) (v := v) (by decide) (fun z => absurd z (by decide))
  rw [← q2] at hp2 qt2 qi2 qs2 qb2
  have ht2 := ht1.trans qt2
  have ha2 : ab m H2 = (tx 11 (tx 11 (ab m H) ((mu_i H 89 2) - (1 : Int32)) 0 c) ((mu_i H1 89 2) - (1 : Int32)) 1 v) := qa2.trans (by rw [ha1])
  refine mw_go mu_g157 (k := 4) (f1 := (42, [(0, .inr (.inr (some 80))), (1, .inl c), (2, .inl v), (3, .inl w)], [.inl (1 : Int32)], (mu_si H2 80 6 w))) (C := [mu_is H2 (some 80) 7]) rfl (show mu_is H2 (some 80) 7 from hp2.1.is rfl) ?_
  have hp3 : ps m (mu_si H2 80 6 w) := hp2.si (by decide) (by decide)
  have ht3 : pt m B H (mu_si H2 80 6 w) := ht2.trans (pt.si hp2)
  have ha3 : ab m (mu_si H2 80 6 w) = (tx 11 (tx 11 (ab m H) ((mu_i H 89 2) - (1 : Int32)) 0 c) ((mu_i H1 89 2) - (1 : Int32)) 1 v) := (ab_si hp2.1 hp2.2.1).trans ha2
  have hb3 : ps_pot m (mu_si H2 80 6 w) + ps_mp (mu_i H2 80 6) = ps_pot m H2 + ps_mp w := ps_pot6 hp2 w
  have hc3 : ps_mp (mu_i H2 80 6) = ps_mp (mu_i H 80 6) := congrArg ps_mp (show mu_i H2 80 6 = (mu_i H 80 6) from ((qi2 6).trans (qi1 6)))
  have hs3 : gi_sz (mu_si H2 80 6 w) 89 = gi_sz H2 89 := rfl
  have hi4_3 : mu_i (mu_si H2 80 6 w) 80 3 = (mu_i H 80 3) := ((qi2 3).trans (qi1 3))
  have hi4_4 : mu_i (mu_si H2 80 6 w) 80 4 = (mu_i H 80 4) := ((qi2 4).trans (qi1 4))
  have hi4_5 : mu_i (mu_si H2 80 6 w) 80 5 = (mu_i H 80 5) := ((qi2 5).trans (qi1 5))
  have hi4_7 : mu_i (mu_si H2 80 6 w) 80 7 = (mu_i H 80 7) := ((qi2 7).trans (qi1 7))
  have hi4_8 : mu_i (mu_si H2 80 6 w) 80 8 = (mu_i H 80 8) := ((qi2 8).trans (qi1 8))
  have hi4_9 : mu_i (mu_si H2 80 6 w) 80 9 = (mu_i H 80 9) := ((qi2 9).trans (qi1 9))
  have hi4_10 : mu_i (mu_si H2 80 6 w) 80 10 = (mu_i H 80 10) := ((qi2 10).trans (qi1 10))
  have hi4_11 : mu_i (mu_si H2 80 6 w) 80 11 = (mu_i H 80 11) := ((qi2 11).trans (qi1 11))
  have hk : ∀ j, j ≠ 6 → mu_i (mu_si H2 80 6 w) 80 j = mu_i H 80 j := (fun j hj => by rw [mu_i_si, if_neg (fun z => by omega)]; rw [qi2]; rw [qi1])
  exact mw_of (fun _ => mu_ret rfl (Or.inr rfl) ⟨_, (mu_si H2 80 6 w), rfl, rfl, hp3, ht3, hk, by omega, by omega, rfl, ha3.trans (tu_two h hp1 qs1)⟩)
theorem pb_start (h : ps m H) (hBB : B ≤ 1000000) (hB : ps_pot m H ≤ B + 100) (c v w : Int32) (hc : ∃ k, k < 54 ∧ c = nI k) : mu_TI (mu_D (d + 5)) 166 [.inr (.inr (some 80)), .inl c, .inl v, .inl w] H (fun x H1 => x = 1 ∧ ps m H1 ∧ pt m B H H1 ∧ (∀ j, j ≠ 6 ∧ j ≠ 8 ∧ j ≠ 9 → mu_i H1 80 j = mu_i H 80 j) ∧ gi_sz H1 89 = gi_sz H 89 + 1 ∧ ps_pot m H1 + ps_mp (mu_i H 80 6) = ps_pot m H + 4 + ps_mp w ∧ mu_i H1 80 6 = w ∧ mu_i H1 80 9 = mu_i H (m + 1) 2 ∧ ab m H1 = tp 11 (ab m H) c v 0 0) := by
  refine mu_meth (M := mu_m166) rfl rfl ?_
  refine mw_ht (mu_fn_of (show [0, 1, 2, 3].Nodup by decide)) ?_
  refine mw_go mu_g166 (k := 3) (f1 := (3, [(0, .inr (.inr (some 80))), (1, .inl c), (2, .inl v), (3, .inl w)], [.inl v, .inl c, .inr (.inr (some 80))], H)) (C := []) rfl trivial ?_
  refine mw_cV (fun _ => rfl) (show mu_is H (some 80) 7 from h.1.is rfl) (pb_push (d := d) (B := B) h hBB (by omega) c v hc) (fun H1 q1 => ?_)
  obtain ⟨hp1, qt1, qi1, qs1, qb1, qa1⟩ := q1
  have ht1 := (pt.refl m B H).trans qt1
  have ha1 : ab m H1 = (tp 11 (ab m H) c v 0 0) := qa1
  refine mw_go mu_g166 (k := 6) (f1 := (16, [(0, .inr (.inr (some 80))), (1, .inl c), (2, .inl v), (3, .inl w)], [.inr (.inr (mu_r H1 80 2)), .inr (.inr (some 80))], (mu_si H1 80 8 (0 : Int32)))) (C := [mu_is H1 (some 80) 7, mu_is (mu_si H1 80 8 (0 : Int32)) (some 80) 7]) rfl (show (mu_is H1 (some 80) 7) ∧ (mu_is (mu_si H1 80 8 (0 : Int32)) (some 80) 7) from ⟨hp1.1.is rfl, hp1.1.is rfl⟩) ?_
  rw [hp1.m80]
  refine mw_go mu_g166 (k := 1) (f1 := (19, [(0, .inr (.inr (some 80))), (1, .inl c), (2, .inl v), (3, .inl w)], [.inr (.inr (mu_r H1 m 0)), .inr (.inr (some 80))], (mu_si H1 80 8 (0 : Int32)))) (C := [mu_is (mu_si H1 80 8 (0 : Int32)) (some m) 6]) rfl (show mu_is (mu_si H1 80 8 (0 : Int32)) (some m) 6 from hp1.im) ?_
  rw [hp1.r0]
  refine mw_go mu_g166 (k := 6) (f1 := (31, [(0, .inr (.inr (some 80))), (1, .inl c), (2, .inl v), (3, .inl w)], [.inl (1 : Int32)], (mu_si (mu_si (mu_si H1 80 8 (0 : Int32)) 80 9 (mu_i (mu_si H1 80 8 (0 : Int32)) (m + 1) 2)) 80 6 w))) (C := [mu_is (mu_si H1 80 8 (0 : Int32)) (some (m + 1)) 10, mu_is (mu_si H1 80 8 (0 : Int32)) (some 80) 7, mu_is (mu_si (mu_si H1 80 8 (0 : Int32)) 80 9 (mu_i (mu_si H1 80 8 (0 : Int32)) (m + 1) 2)) (some 80) 7]) rfl (show (mu_is (mu_si H1 80 8 (0 : Int32)) (some (m + 1)) 10) ∧ (mu_is (mu_si H1 80 8 (0 : Int32)) (some 80) 7) ∧ (mu_is (mu_si (mu_si H1 80 8 (0 : Int32)) 80 9 (mu_i (mu_si H1 80 8 (0 : Int32)) (m + 1) 2)) (some 80) 7) from ⟨hp1.i0, hp1.1.is rfl, hp1.1.is rfl⟩) ?_
  have hp2 : ps m (mu_si H1 80 8 (0 : Int32)) := hp1.si (by decide) (by decide)
  have ht2 : pt m B H (mu_si H1 80 8 (0 : Int32)) := ht1.trans (pt.si hp1)
  have ha2 : ab m (mu_si H1 80 8 (0 : Int32)) = (tp 11 (ab m H) c v 0 0) := (ab_si hp1.1 hp1.2.1).trans ha1
  have hb2 : ps_pot m (mu_si H1 80 8 (0 : Int32)) = ps_pot m H1 := ps_potj hp1 (0 : Int32) (by decide) (by decide)
  have hs2 : gi_sz (mu_si H1 80 8 (0 : Int32)) 89 = gi_sz H1 89 := rfl
  have hp3 : ps m (mu_si (mu_si H1 80 8 (0 : Int32)) 80 9 (mu_i (mu_si H1 80 8 (0 : Int32)) (m + 1) 2)) := hp2.si (by decide) (by decide)
  have ht3 : pt m B H (mu_si (mu_si H1 80 8 (0 : Int32)) 80 9 (mu_i (mu_si H1 80 8 (0 : Int32)) (m + 1) 2)) := ht2.trans (pt.si hp2)
  have ha3 : ab m (mu_si (mu_si H1 80 8 (0 : Int32)) 80 9 (mu_i (mu_si H1 80 8 (0 : Int32)) (m + 1) 2)) = (tp 11 (ab m H) c v 0 0) := (ab_si hp2.1 hp2.2.1).trans ha2
  have hb3 : ps_pot m (mu_si (mu_si H1 80 8 (0 : Int32)) 80 9 (mu_i (mu_si H1 80 8 (0 : Int32)) (m + 1) 2)) = ps_pot m (mu_si H1 80 8 (0 : Int32)) := ps_potj hp2 (mu_i (mu_si H1 80 8 (0 : Int32)) (m + 1) 2) (by decide) (by decide)
  have hs3 : gi_sz (mu_si (mu_si H1 80 8 (0 : Int32)) 80 9 (mu_i (mu_si H1 80 8 (0 : Int32)) (m + 1) 2)) 89 = gi_sz (mu_si H1 80 8 (0 : Int32)) 89 := rfl
  have hp4 : ps m (mu_si (mu_si (mu_si H1 80 8 (0 : Int32)) 80 9 (mu_i (mu_si H1 80 8 (0 : Int32)) (m + 1) 2)) 80 6 w) := hp3.si (by decide) (by decide)
  have ht4 : pt m B H (mu_si (mu_si (mu_si H1 80 8 (0 : Int32)) 80 9 (mu_i (mu_si H1 80 8 (0 : Int32)) (m + 1) 2)) 80 6 w) := ht3.trans (pt.si hp3)
  have ha4 : ab m (mu_si (mu_si (mu_si H1 80 8 (0 : Int32)) 80 9 (mu_i (mu_si H1 80 8 (0 : Int32)) (m + 1) 2)) 80 6 w) = (tp 11 (ab m H) c v 0 0) := (ab_si hp3.1 hp3.2.1).trans ha3
  have hb4 : ps_pot m (mu_si (mu_si (mu_si H1 80 8 (0 : Int32)) 80 9 (mu_i (mu_si H1 80 8 (0 : Int32)) (m + 1) 2)) 80 6 w) + ps_mp (mu_i (mu_si (mu_si H1 80 8 (0 : Int32)) 80 9 (mu_i (mu_si H1 80 8 (0 : Int32)) (m + 1) 2)) 80 6) = ps_pot m (mu_si (mu_si H1 80 8 (0 : Int32)) 80 9 (mu_i (mu_si H1 80 8 (0 : Int32)) (m + 1) 2)) + ps_mp w := ps_pot6 hp3 w
  have hc4 : ps_mp (mu_i (mu_si (mu_si H1 80 8 (0 : Int32)) 80 9 (mu_i (mu_si H1 80 8 (0 : Int32)) (m + 1) 2)) 80 6) = ps_mp (mu_i H 80 6) := congrArg ps_mp (show mu_i (mu_si (mu_si H1 80 8 (0 : Int32)) 80 9 (mu_i (mu_si H1 80 8 (0 : Int32)) (m + 1) 2)) 80 6 = (mu_i H 80 6) from (qi1 6))
  have hs4 : gi_sz (mu_si (mu_si (mu_si H1 80 8 (0 : Int32)) 80 9 (mu_i (mu_si H1 80 8 (0 : Int32)) (m + 1) 2)) 80 6 w) 89 = gi_sz (mu_si (mu_si H1 80 8 (0 : Int32)) 80 9 (mu_i (mu_si H1 80 8 (0 : Int32)) (m + 1) 2)) 89 := rfl
  have hi5_3 : mu_i (mu_si (mu_si (mu_si H1 80 8 (0 : Int32)) 80 9 (mu_i (mu_si H1 80 8 (0 : Int32)) (m + 1) 2)) 80 6 w) 80 3 = (mu_i H 80 3) := (qi1 3)
  have hi5_4 : mu_i (mu_si (mu_si (mu_si H1 80 8 (0 : Int32)) 80 9 (mu_i (mu_si H1 80 8 (0 : Int32)) (m + 1) 2)) 80 6 w) 80 4 = (mu_i H 80 4) := (qi1 4)
  have hi5_5 : mu_i (mu_si (mu_si (mu_si H1 80 8 (0 : Int32)) 80 9 (mu_i (mu_si H1 80 8 (0 : Int32)) (m + 1) 2)) 80 6 w) 80 5 = (mu_i H 80 5) := (qi1 5)
  have hi5_7 : mu_i (mu_si (mu_si (mu_si H1 80 8 (0 : Int32)) 80 9 (mu_i (mu_si H1 80 8 (0 : Int32)) (m + 1) 2)) 80 6 w) 80 7 = (mu_i H 80 7) := (qi1 7)
  have hi5_10 : mu_i (mu_si (mu_si (mu_si H1 80 8 (0 : Int32)) 80 9 (mu_i (mu_si H1 80 8 (0 : Int32)) (m + 1) 2)) 80 6 w) 80 10 = (mu_i H 80 10) := (qi1 10)
  have hi5_11 : mu_i (mu_si (mu_si (mu_si H1 80 8 (0 : Int32)) 80 9 (mu_i (mu_si H1 80 8 (0 : Int32)) (m + 1) 2)) 80 6 w) 80 11 = (mu_i H 80 11) := (qi1 11)
  have hk : ∀ j, j ≠ 6 ∧ j ≠ 8 ∧ j ≠ 9 → mu_i (mu_si (mu_si (mu_si H1 80 8 (0 : Int32)) 80 9 (mu_i (mu_si H1 80 8 (0 : Int32)) (m + 1) 2)) 80 6 w) 80 j = mu_i H 80 j := (fun j hj => by rw [mu_i_si, if_neg (fun z => by omega)]; rw [mu_i_si, if_neg (fun z => by omega)]; rw [mu_i_si, if_neg (fun z => by omega)]; rw [qi1])
  exact mw_of (fun _ => mu_ret rfl (Or.inr rfl) ⟨_, (mu_si (mu_si (mu_si H1 80 8 (0 : Int32)) 80 9 (mu_i (mu_si H1 80 8 (0 : Int32)) (m + 1) 2)) 80 6 w), rfl, rfl, hp4, ht4, hk, by omega, by omega, rfl, st_from h hp1 ha1, ha4⟩)
theorem pb_part (h : ps m H) : mu_TI (mu_D (d + 4)) 163 [.inr (.inr (some 80))] H (fun x H1 => x = 1 ∧ ps m H1 ∧ pt m B H H1 ∧ (∀ j, j ≠ 6 ∧ j ≠ 7 → mu_i H1 80 j = mu_i H 80 j) ∧ gi_sz H1 89 = gi_sz H 89 - 1 ∧ ps_pot m H1 + ps_mp (mu_i H 80 6) + 4 * (gi_sz H 89 - (gi_sz H 89 - 1)) = ps_pot m H + 2 ∧ mu_i H1 80 6 = 8 ∧ ab m H1 = td (ab m H)) := by
  refine mu_meth (M := mu_m163) rfl rfl ?_
  refine mw_ht (mu_fn_of (show [0].Nodup by decide)) ?_
  refine mw_go mu_g163 (k := 1) (f1 := (1, [(0, .inr (.inr (some 80)))], [.inr (.inr (some 80))], H)) (C := []) rfl trivial ?_
  refine mw_cV (fun _ => rfl) (show mu_is H (some 80) 7 from h.1.is rfl) (pb_drop (d := d) (B := B) h) (fun H1 q1 => ?_)
  obtain ⟨hp1, qt1, qi1, qs1, qb1, qa1⟩ := q1
  have ht1 := (pt.refl m B H).trans qt1
  have ha1 : ab m H1 = (td (ab m H)) := qa1
  refine mw_go mu_g163 (k := 7) (f1 := (16, [(0, .inr (.inr (some 80)))], [.inl (1 : Int32)], (mu_si (mu_si H1 80 6 (8 : Int32)) 80 7 (4 : Int32)))) (C := [mu_is H1 (some 80) 7, mu_is (mu_si H1 80 6 (8 : Int32)) (some 80) 7]) rfl (show (mu_is H1 (some 80) 7) ∧ (mu_is (mu_si H1 80 6 (8 : Int32)) (some 80) 7) from ⟨hp1.1.is rfl, hp1.1.is rfl⟩) ?_
  have hp2 : ps m (mu_si H1 80 6 (8 : Int32)) := hp1.si (by decide) (by decide)
  have ht2 : pt m B H (mu_si H1 80 6 (8 : Int32)) := ht1.trans (pt.si hp1)
  have ha2 : ab m (mu_si H1 80 6 (8 : Int32)) = (td (ab m H)) := (ab_si hp1.1 hp1.2.1).trans ha1
  have hb2 : ps_pot m (mu_si H1 80 6 (8 : Int32)) + ps_mp (mu_i H1 80 6) = ps_pot m H1 + 2 := ps_pot6 hp1 (8 : Int32)
  have hc2 : ps_mp (mu_i H1 80 6) = ps_mp (mu_i H 80 6) := congrArg ps_mp (show mu_i H1 80 6 = (mu_i H 80 6) from (qi1 6))
  have hs2 : gi_sz (mu_si H1 80 6 (8 : Int32)) 89 = gi_sz H1 89 := rfl
  have hp3 : ps m (mu_si (mu_si H1 80 6 (8 : Int32)) 80 7 (4 : Int32)) := hp2.si (by decide) (by decide)
  have ht3 : pt m B H (mu_si (mu_si H1 80 6 (8 : Int32)) 80 7 (4 : Int32)) := ht2.trans (pt.si hp2)
  have ha3 : ab m (mu_si (mu_si H1 80 6 (8 : Int32)) 80 7 (4 : Int32)) = (td (ab m H)) := (ab_si hp2.1 hp2.2.1).trans ha2
  have hb3 : ps_pot m (mu_si (mu_si H1 80 6 (8 : Int32)) 80 7 (4 : Int32)) = ps_pot m (mu_si H1 80 6 (8 : Int32)) := ps_potj hp2 (4 : Int32) (by decide) (by decide)
  have hs3 : gi_sz (mu_si (mu_si H1 80 6 (8 : Int32)) 80 7 (4 : Int32)) 89 = gi_sz (mu_si H1 80 6 (8 : Int32)) 89 := rfl
  have hi4_3 : mu_i (mu_si (mu_si H1 80 6 (8 : Int32)) 80 7 (4 : Int32)) 80 3 = (mu_i H 80 3) := (qi1 3)
  have hi4_4 : mu_i (mu_si (mu_si H1 80 6 (8 : Int32)) 80 7 (4 : Int32)) 80 4 = (mu_i H 80 4) := (qi1 4)
  have hi4_5 : mu_i (mu_si (mu_si H1 80 6 (8 : Int32)) 80 7 (4 : Int32)) 80 5 = (mu_i H 80 5) := (qi1 5)
  have hi4_8 : mu_i (mu_si (mu_si H1 80 6 (8 : Int32)) 80 7 (4 : Int32)) 80 8 = (mu_i H 80 8) := (qi1 8)
  have hi4_9 : mu_i (mu_si (mu_si H1 80 6 (8 : Int32)) 80 7 (4 : Int32)) 80 9 = (mu_i H 80 9) := (qi1 9)
  have hi4_10 : mu_i (mu_si (mu_si H1 80 6 (8 : Int32)) 80 7 (4 : Int32)) 80 10 = (mu_i H 80 10) := (qi1 10)
  have hi4_11 : mu_i (mu_si (mu_si H1 80 6 (8 : Int32)) 80 7 (4 : Int32)) 80 11 = (mu_i H 80 11) := (qi1 11)
  have hk : ∀ j, j ≠ 6 ∧ j ≠ 7 → mu_i (mu_si (mu_si H1 80 6 (8 : Int32)) 80 7 (4 : Int32)) 80 j = mu_i H 80 j := (fun j hj => by rw [mu_i_si, if_neg (fun z => by omega)]; rw [mu_i_si, if_neg (fun z => by omega)]; rw [qi1])
  exact mw_of (fun _ => mu_ret rfl (Or.inr rfl) ⟨_, (mu_si (mu_si H1 80 6 (8 : Int32)) 80 7 (4 : Int32)), rfl, rfl, hp3, ht3, hk, by omega, by omega, rfl, ha3⟩)
end ParserSmall2
