/-! GRAPH: a row is entered -/
section Enter
variable {H : mu_H} {U V : Ud} {m d T R wn bf bt en ps ls r ga gi gq lq x t : Nat} {C : Nat → Nat} {rx mb me ix pl : Nat → Nat}
def F325 : Uf := ⟨[], [(147, 20), (147, 21), (147, 22)], [(147, 10)], [], [150, 151], false⟩
def F325a : Uf := ⟨[], [], [], [], [150, 151], false⟩
/-- PathProver$Graph.enter(I)V -/
abbrev mu_m325 : ev_M := (5, none, [], ev_b325)
theorem mu_g325 : mu_good mu_m325 := mu_goodk ev_k325
theorem gr_enter (h : um m H) (e : ud m H = U) (hG : GRB U T R wn rx mb me) (hz : BZ U bf bt) (hgl : LSN U ga gi gq 256) (hgo : U.2.2.2.1 147 8 = some gq) (hen : U.2.1 147 22 = nI en) (hps : U.2.1 147 20 = nI ps) (hls : U.2.1 147 21 = nI ls) (henb : en ≤ T + 1) (hpsb : ps ≤ T + 1) (hlsb : ls ≤ T + 1) (hr : r < R) (hpl : ∀ i, i < ls → (U.2.2.1 147 10).2 (i * 7 + 6) = nI (pl i) ∧ pl i < R) (hix : ∀ i, i < ls → (U.2.2.1 147 10).2 (pl i * 7 + 1) = nI (ix (pl i)) ∧ ix (pl i) ≤ en) (hmono : ∀ i, i < ls → ix (pl 0) ≤ ix (pl i)) (hrn : ∀ i, i < ls → ¬ pl i = r) (hpi : ∀ t, t < T → (bts (U.2.2.2.2.1 151) t = true ↔ bts (U.2.2.2.2.1 153) t = true ∧ ∃ i, i < ls ∧ pl i = rx t)) (hT146 : ∀ s, s < 16384 → bts (U.2.2.2.2.1 146) s = true → s < T) : mu_TV (mu_D (d + 4)) 325 [.inr (.inr (some 147)), .inl (nI r)] H (fun H1 => um m H1 ∧ ur m C H H1 ∧ uq F325 U (ud m H1) ∧ (ud m H1).2.1 147 22 = nI (en + 1) ∧ (ud m H1).2.1 147 20 = nI (ps + 1) ∧ (ud m H1).2.1 147 21 = nI (ls + 1) ∧ ∃ lo ldv, (∀ j, ((ud m H1).2.2.1 147 10).2 j = if j = r * 7 + 2 then nI lo else if j = r * 7 + 4 then nI ldv else (if j = ls * 7 + 6 then nI r else if j = ps * 7 + 5 then nI r else if j = r * 7 + 3 then 0 else if j = r * 7 + 1 then nI (en + 1) else (U.2.2.1 147 10).2 j)) ∧ ((∀ t, t < T → (bts ((ud m H1).2.2.2.2.1 150) t = true ↔ bts (U.2.2.2.2.1 150) t = true ∧ ¬ (bts (U.2.2.2.2.1 153) t = true ∧ rx t = r))) ∧ ∀ t, bts ((ud m H1).2.2.2.2.1 150) t = true → bts (U.2.2.2.2.1 150) t = true) ∧ (∀ t, t < T → (bts ((ud m H1).2.2.2.2.1 151) t = true ↔ bts (U.2.2.2.2.1 151) t = true ∨ (bts (U.2.2.2.2.1 153) t = true ∧ rx t = r))) ∧ ldv < 4 ∧ (ldv % 2 = 1 ↔ ∃ t, t < 16384 ∧ bts (U.2.2.2.2.1 146) t = true ∧ bts (lgf U ga gi) t = true) ∧ (2 ≤ ldv ↔ ∃ t, t < T ∧ bts (U.2.2.2.2.1 153) t = true ∧ rx t = r ∧ bts (U.2.2.2.2.1 146) t = true) ∧ lo ≤ en + 1 ∧ (∀ t, t < T → bts (U.2.2.2.2.1 146) t = true → bts ((ud m H1).2.2.2.2.1 151) t = true → lo ≤ (if rx t = r then en + 1 else ix (rx t))) ∧ (lo = en + 1 ∨ ∃ t, t < T ∧ bts (U.2.2.2.2.1 146) t = true ∧ bts ((ud m H1).2.2.2.2.1 151) t = true ∧ (if rx t = r then en + 1 else ix (rx t)) = lo)) := by
  obtain ⟨⟨⟨hg12, hg11⟩, hgwn, hTb⟩, ⟨⟨g6a, g6b⟩, hrx⟩, ⟨hRT, g10a, g10b⟩, ⟨g11a, g11b⟩, ⟨g12a, g12b⟩, ⟨g13a, g13b⟩, hmb, hme, hmp1, hmp2, hmp3, hmp4⟩ := id hG
  refine mu_meth (M := mu_m325) rfl rfl ?_
  refine mw_ht (mu_fn_of (show [0, 1].Nodup by decide)) ?_
  refine mw_go mu_g325 (k := 3) (f1 := (5, [(0, .inr (.inr (some 147))), (1, .inl (nI r))], [.inl (mu_i H 147 22), .inr (.inr (some 147))], H)) (C := [mu_is H (some 147) 2]) rfl (show mu_is H (some 147) 2 from (h.1.1.is rfl)) ?_
  rw [(show mu_i H 147 22 = (nI en) from (ud_i (U := U) (m := m) (P := 147) (j := 22) e rfl).trans hen)]
  refine mw_go mu_g325 (k := 2) (f1 := (7, [(0, .inr (.inr (some 147))), (1, .inl (nI r))], [.inl ((nI en) + (1 : Int32)), .inr (.inr (some 147))], H)) (C := []) rfl trivial ?_
  rw [(show ((nI en) + (1 : Int32)) = (nI (en + 1)) from (nI_add en 1))]
  refine mw_go mu_g325 (k := 1) (f1 := (10, [(0, .inr (.inr (some 147))), (1, .inl (nI r))], [], (mu_si H 147 22 (nI (en + 1))))) (C := [mu_is H (some 147) 2]) rfl (show mu_is H (some 147) 2 from (h.1.1.is rfl)) ?_
  obtain ⟨u1, r1, d1⟩ : um m (mu_si H 147 22 (nI (en + 1))) ∧ ur m C H (mu_si H 147 22 (nI (en + 1))) ∧ ud m (mu_si H 147 22 (nI (en + 1))) = (upI U 147 22 (nI (en + 1))) := h.sI (C := C) e rfl
  generalize (mu_si H 147 22 (nI (en + 1))) = Q1 at u1 r1 d1 ⊢
  have qf1 : uq F325 U (upI U 147 22 (nI (en + 1))) := (uq.refl F325 U).I rfl
  have ht1 : ur m C H Q1 := (ur.refl m C H).trans r1
  refine mw_go mu_g325 (k := 5) (f1 := (17, [(0, .inr (.inr (some 147))), (1, .inl (nI r))], [.inl (mu_i Q1 147 22), .inl (1 : Int32), .inl (nI r), .inr (.inr (some 147))], Q1)) (C := [mu_is Q1 (some 147) 2]) rfl (show mu_is Q1 (some 147) 2 from (u1.1.1.is rfl)) ?_
  rw [(show mu_i Q1 147 22 = (nI (en + 1)) from (ud_i (U := (upI U 147 22 (nI (en + 1)))) (m := m) (P := 147) (j := 22) d1 rfl))]
  refine mw_cV (fun _ => rfl) (show mu_is Q1 (some 147) 2 from (u1.1.1.is rfl)) (gr_set (d := (d + 2)) (C := C) (r := r) (c := 1) (v := (nI (en + 1))) u1 d1 (by (rw [(show ((upI U 147 22 (nI (en + 1))).2.2.1 147 10).1 = (U.2.2.1 147 10).1 from rfl)]; omega)) (by (rw [(show ((upI U 147 22 (nI (en + 1))).2.2.1 147 10).1 = (U.2.2.1 147 10).1 from rfl)]; omega))) (fun Q2 q2 => ?_)
  obtain ⟨u2, r2, d2⟩ := q2
  have ht2 : ur m C H Q2 := ht1.trans r2
  have qf2 : uq F325 U (upA (upI U 147 22 (nI (en + 1))) 147 10 (r * 7 + 1) (nI (en + 1))) := qf1.A rfl
  refine mw_go mu_g325 (k := 4) (f1 := (24, [(0, .inr (.inr (some 147))), (1, .inl (nI r))], [.inl (0 : Int32), .inl (3 : Int32), .inl (nI r), .inr (.inr (some 147))], Q2)) (C := []) rfl trivial ?_
  refine mw_cV (fun _ => rfl) (show mu_is Q2 (some 147) 2 from (u2.1.1.is rfl)) (gr_set (d := (d + 2)) (C := C) (r := r) (c := 3) (v := (0 : Int32)) u2 d2 (by (rw [(show ((upA (upI U 147 22 (nI (en + 1))) 147 10 (r * 7 + 1) (nI (en + 1))).2.2.1 147 10).1 = (U.2.2.1 147 10).1 from rfl)]; omega)) (by (rw [(show ((upA (upI U 147 22 (nI (en + 1))) 147 10 (r * 7 + 1) (nI (en + 1))).2.2.1 147 10).1 = (U.2.2.1 147 10).1 from rfl)]; omega))) (fun Q3 q3 => ?_)
  obtain ⟨u3, r3, d3⟩ := q3
  have ht3 : ur m C H Q3 := ht2.trans r3
  have qf3 : uq F325 U (upA (upA (upI U 147 22 (nI (en + 1))) 147 10 (r * 7 + 1) (nI (en + 1))) 147 10 (r * 7 + 3) (0 : Int32)) := qf2.A rfl
  refine mw_go mu_g325 (k := 3) (f1 := (32, [(0, .inr (.inr (some 147))), (1, .inl (nI r))], [.inl (mu_i Q3 147 20), .inr (.inr (some 147))], Q3)) (C := [mu_is Q3 (some 147) 2]) rfl (show mu_is Q3 (some 147) 2 from (u3.1.1.is rfl)) ?_
  rw [(show mu_i Q3 147 20 = (nI ps) from (ud_i (U := (upA (upA (upI U 147 22 (nI (en + 1))) 147 10 (r * 7 + 1) (nI (en + 1))) 147 10 (r * 7 + 3) (0 : Int32))) (m := m) (P := 147) (j := 20) d3 rfl).trans hps)]
  refine mw_go mu_g325 (k := 2) (f1 := (34, [(0, .inr (.inr (some 147))), (1, .inl (nI r))], [.inl (nI r), .inl (5 : Int32), .inl (nI ps), .inr (.inr (some 147))], Q3)) (C := []) rfl trivial ?_
  refine mw_cV (fun _ => rfl) (show mu_is Q3 (some 147) 2 from (u3.1.1.is rfl)) (gr_set (d := (d + 2)) (C := C) (r := ps) (c := 5) (v := (nI r)) u3 d3 (by (rw [(show ((upA (upA (upI U 147 22 (nI (en + 1))) 147 10 (r * 7 + 1) (nI (en + 1))) 147 10 (r * 7 + 3) (0 : Int32)).2.2.1 147 10).1 = (U.2.2.1 147 10).1 from rfl)]; omega)) (by (rw [(show ((upA (upA (upI U 147 22 (nI (en + 1))) 147 10 (r * 7 + 1) (nI (en + 1))) 147 10 (r * 7 + 3) (0 : Int32)).2.2.1 147 10).1 = (U.2.2.1 147 10).1 from rfl)]; omega))) (fun Q4 q4 => ?_)
  obtain ⟨u4, r4, d4⟩ := q4
  have ht4 : ur m C H Q4 := ht3.trans r4
  have qf4 : uq F325 U (upA (upA (upA (upI U 147 22 (nI (en + 1))) 147 10 (r * 7 + 1) (nI (en + 1))) 147 10 (r * 7 + 3) (0 : Int32)) 147 10 (ps * 7 + 5) (nI r)) := qf3.A rfl
  refine mw_go mu_g325 (k := 3) (f1 := (42, [(0, .inr (.inr (some 147))), (1, .inl (nI r))], [.inl (mu_i Q4 147 20), .inr (.inr (some 147))], Q4)) (C := [mu_is Q4 (some 147) 2]) rfl (show mu_is Q4 (some 147) 2 from (u4.1.1.is rfl)) ?_
  rw [(show mu_i Q4 147 20 = (nI ps) from (ud_i (U := (upA (upA (upA (upI U 147 22 (nI (en + 1))) 147 10 (r * 7 + 1) (nI (en + 1))) 147 10 (r * 7 + 3) (0 : Int32)) 147 10 (ps * 7 + 5) (nI r))) (m := m) (P := 147) (j := 20) d4 rfl).trans hps)]
  refine mw_go mu_g325 (k := 2) (f1 := (44, [(0, .inr (.inr (some 147))), (1, .inl (nI r))], [.inl ((nI ps) + (1 : Int32)), .inr (.inr (some 147))], Q4)) (C := []) rfl trivial ?_
  rw [(show ((nI ps) + (1 : Int32)) = (nI (ps + 1)) from (nI_add ps 1))]
  refine mw_go mu_g325 (k := 1) (f1 := (47, [(0, .inr (.inr (some 147))), (1, .inl (nI r))], [], (mu_si Q4 147 20 (nI (ps + 1))))) (C := [mu_is Q4 (some 147) 2]) rfl (show mu_is Q4 (some 147) 2 from (u4.1.1.is rfl)) ?_
  obtain ⟨u5, r5, d5⟩ : um m (mu_si Q4 147 20 (nI (ps + 1))) ∧ ur m C Q4 (mu_si Q4 147 20 (nI (ps + 1))) ∧ ud m (mu_si Q4 147 20 (nI (ps + 1))) = (upI (upA (upA (upA (upI U 147 22 (nI (en + 1))) 147 10 (r * 7 + 1) (nI (en + 1))) 147 10 (r * 7 + 3) (0 : Int32)) 147 10 (ps * 7 + 5) (nI r)) 147 20 (nI (ps + 1))) := u4.sI (C := C) d4 rfl
  generalize (mu_si Q4 147 20 (nI (ps + 1))) = Q5 at u5 r5 d5 ⊢
  have qf5 : uq F325 U (upI (upA (upA (upA (upI U 147 22 (nI (en + 1))) 147 10 (r * 7 + 1) (nI (en + 1))) 147 10 (r * 7 + 3) (0 : Int32)) 147 10 (ps * 7 + 5) (nI r)) 147 20 (nI (ps + 1))) := qf4.I rfl
  have ht5 : ur m C H Q5 := ht4.trans r5
  refine mw_go mu_g325 (k := 3) (f1 := (52, [(0, .inr (.inr (some 147))), (1, .inl (nI r))], [.inl (mu_i Q5 147 21), .inr (.inr (some 147))], Q5)) (C := [mu_is Q5 (some 147) 2]) rfl (show mu_is Q5 (some 147) 2 from (u5.1.1.is rfl)) ?_
  rw [(show mu_i Q5 147 21 = (nI ls) from (ud_i (U := (upI (upA (upA (upA (upI U 147 22 (nI (en + 1))) 147 10 (r * 7 + 1) (nI (en + 1))) 147 10 (r * 7 + 3) (0 : Int32)) 147 10 (ps * 7 + 5) (nI r)) 147 20 (nI (ps + 1)))) (m := m) (P := 147) (j := 21) d5 rfl).trans hls)]
  refine mw_go mu_g325 (k := 2) (f1 := (55, [(0, .inr (.inr (some 147))), (1, .inl (nI r))], [.inl (nI r), .inl (6 : Int32), .inl (nI ls), .inr (.inr (some 147))], Q5)) (C := []) rfl trivial ?_
  refine mw_cV (fun _ => rfl) (show mu_is Q5 (some 147) 2 from (u5.1.1.is rfl)) (gr_set (d := (d + 2)) (C := C) (r := ls) (c := 6) (v := (nI r)) u5 d5 (by (rw [(show ((upI (upA (upA (upA (upI U 147 22 (nI (en + 1))) 147 10 (r * 7 + 1) (nI (en + 1))) 147 10 (r * 7 + 3) (0 : Int32)) 147 10 (ps * 7 + 5) (nI r)) 147 20 (nI (ps + 1))).2.2.1 147 10).1 = (U.2.2.1 147 10).1 from rfl)]; omega)) (by (rw [(show ((upI (upA (upA (upA (upI U 147 22 (nI (en + 1))) 147 10 (r * 7 + 1) (nI (en + 1))) 147 10 (r * 7 + 3) (0 : Int32)) 147 10 (ps * 7 + 5) (nI r)) 147 20 (nI (ps + 1))).2.2.1 147 10).1 = (U.2.2.1 147 10).1 from rfl)]; omega))) (fun Q6 q6 => ?_)
  obtain ⟨u6, r6, d6⟩ := q6
  have ht6 : ur m C H Q6 := ht5.trans r6
  have qf6 : uq F325 U (upA (upI (upA (upA (upA (upI U 147 22 (nI (en + 1))) 147 10 (r * 7 + 1) (nI (en + 1))) 147 10 (r * 7 + 3) (0 : Int32)) 147 10 (ps * 7 + 5) (nI r)) 147 20 (nI (ps + 1))) 147 10 (ls * 7 + 6) (nI r)) := qf5.A rfl
  refine mw_go mu_g325 (k := 3) (f1 := (63, [(0, .inr (.inr (some 147))), (1, .inl (nI r))], [.inl (mu_i Q6 147 21), .inr (.inr (some 147))], Q6)) (C := [mu_is Q6 (some 147) 2]) rfl (show mu_is Q6 (some 147) 2 from (u6.1.1.is rfl)) ?_
  rw [(show mu_i Q6 147 21 = (nI ls) from (ud_i (U := (upA (upI (upA (upA (upA (upI U 147 22 (nI (en + 1))) 147 10 (r * 7 + 1) (nI (en + 1))) 147 10 (r * 7 + 3) (0 : Int32)) 147 10 (ps * 7 + 5) (nI r)) 147 20 (nI (ps + 1))) 147 10 (ls * 7 + 6) (nI r))) (m := m) (P := 147) (j := 21) d6 rfl).trans hls)]
  refine mw_go mu_g325 (k := 2) (f1 := (65, [(0, .inr (.inr (some 147))), (1, .inl (nI r))], [.inl ((nI ls) + (1 : Int32)), .inr (.inr (some 147))], Q6)) (C := []) rfl trivial ?_
  rw [(show ((nI ls) + (1 : Int32)) = (nI (ls + 1)) from (nI_add ls 1))]
  refine mw_go mu_g325 (k := 1) (f1 := (68, [(0, .inr (.inr (some 147))), (1, .inl (nI r))], [], (mu_si Q6 147 21 (nI (ls + 1))))) (C := [mu_is Q6 (some 147) 2]) rfl (show mu_is Q6 (some 147) 2 from (u6.1.1.is rfl)) ?_
  obtain ⟨u7, r7, d7⟩ : um m (mu_si Q6 147 21 (nI (ls + 1))) ∧ ur m C Q6 (mu_si Q6 147 21 (nI (ls + 1))) ∧ ud m (mu_si Q6 147 21 (nI (ls + 1))) = (upI (upA (upI (upA (upA (upA (upI U 147 22 (nI (en + 1))) 147 10 (r * 7 + 1) (nI (en + 1))) 147 10 (r * 7 + 3) (0 : Int32)) 147 10 (ps * 7 + 5) (nI r)) 147 20 (nI (ps + 1))) 147 10 (ls * 7 + 6) (nI r)) 147 21 (nI (ls + 1))) := u6.sI (C := C) d6 rfl
  generalize (mu_si Q6 147 21 (nI (ls + 1))) = Q7 at u7 r7 d7 ⊢
  have qf7 : uq F325 U (upI (upA (upI (upA (upA (upA (upI U 147 22 (nI (en + 1))) 147 10 (r * 7 + 1) (nI (en + 1))) 147 10 (r * 7 + 3) (0 : Int32)) 147 10 (ps * 7 + 5) (nI r)) 147 20 (nI (ps + 1))) 147 10 (ls * 7 + 6) (nI r)) 147 21 (nI (ls + 1))) := qf6.I rfl
  have ht7 : ur m C H Q7 := ht6.trans r7
  have hcell : ∀ j, ((upI (upA (upI (upA (upA (upA (upI U 147 22 (nI (en + 1))) 147 10 (r * 7 + 1) (nI (en + 1))) 147 10 (r * 7 + 3) (0 : Int32)) 147 10 (ps * 7 + 5) (nI r)) 147 20 (nI (ps + 1))) 147 10 (ls * 7 + 6) (nI r)) 147 21 (nI (ls + 1))).2.2.1 147 10).2 j = (if j = ls * 7 + 6 then nI r else if j = ps * 7 + 5 then nI r else if j = r * 7 + 3 then 0 else if j = r * 7 + 1 then nI (en + 1) else (U.2.2.1 147 10).2 j) := fun j => rfl
  obtain ⟨hr1, hr2⟩ := hmp1 r hr
  refine mw_go mu_g325 (k := 5) (f1 := (73, [(2, .inl (0 : Int32)), (0, .inr (.inr (some 147))), (1, .inl (nI r))], [.inl (0 : Int32), .inl (nI r), .inr (.inr (some 147))], Q7)) (C := []) rfl trivial ?_
  refine mw_cIe (fun _ => rfl) (show mu_is Q7 (some 147) 2 from (u7.1.1.is rfl)) (gr_node (d := (d + 2)) (r := r) (c := 0) u7 d7 (by (rw [(show ((upI (upA (upI (upA (upA (upA (upI U 147 22 (nI (en + 1))) 147 10 (r * 7 + 1) (nI (en + 1))) 147 10 (r * 7 + 3) (0 : Int32)) 147 10 (ps * 7 + 5) (nI r)) 147 20 (nI (ps + 1))) 147 10 (ls * 7 + 6) (nI r)) 147 21 (nI (ls + 1))).2.2.1 147 10).1 = (U.2.2.1 147 10).1 from rfl)]; omega)) (by (rw [(show ((upI (upA (upI (upA (upA (upA (upI U 147 22 (nI (en + 1))) 147 10 (r * 7 + 1) (nI (en + 1))) 147 10 (r * 7 + 3) (0 : Int32)) 147 10 (ps * 7 + 5) (nI r)) 147 20 (nI (ps + 1))) 147 10 (ls * 7 + 6) (nI r)) 147 21 (nI (ls + 1))).2.2.1 147 10).1 = (U.2.2.1 147 10).1 from rfl)]; omega))) ?_
  rw [show ((upI (upA (upI (upA (upA (upA (upI U 147 22 (nI (en + 1))) 147 10 (r * 7 + 1) (nI (en + 1))) 147 10 (r * 7 + 3) (0 : Int32)) 147 10 (ps * 7 + 5) (nI r)) 147 20 (nI (ps + 1))) 147 10 (ls * 7 + 6) (nI r)) 147 21 (nI (ls + 1))).2.2.1 147 10).2 (r * 7 + 0) = nI (mb r) from (by rw [show (upI (upA (upI (upA (upA (upA (upI U 147 22 (nI (en + 1))) 147 10 (r * 7 + 1) (nI (en + 1))) 147 10 (r * 7 + 3) (0 : Int32)) 147 10 (ps * 7 + 5) (nI r)) 147 20 (nI (ps + 1))) 147 10 (ls * 7 + 6) (nI r)) 147 21 (nI (ls + 1))).2.2.1 147 10 = (upI (upA (upI (upA (upA (upA (upI U 147 22 (nI (en + 1))) 147 10 (r * 7 + 1) (nI (en + 1))) 147 10 (r * 7 + 3) (0 : Int32)) 147 10 (ps * 7 + 5) (nI r)) 147 20 (nI (ps + 1))) 147 10 (ls * 7 + 6) (nI r)) 147 21 (nI (ls + 1))).2.2.1 147 10 from rfl, hcell, if_neg (by omega), if_neg (by omega), if_neg (by omega), if_neg (by omega)]; exact hmb r (by omega))]
  refine mw_go mu_g325 (k := 1) (f1 := (77, [(3, .inl (nI (mb r))), (2, .inl (0 : Int32)), (0, .inr (.inr (some 147))), (1, .inl (nI r))], [], Q7)) (C := []) rfl trivial ?_
  show mu_W _ _ (77, [(3, .inl (nI (mb r))), (2, .inl (nI 0)), (0, .inr (.inr (some 147))), (1, .inl (nI r))], [], Q7) _
  refine mw_sub (L' := [(2, .inl (nI 0)), (3, .inl (nI (mb r))), (0, .inr (.inr (some 147))), (1, .inl (nI r))]) (by simp) ?_
  refine mw_down (α := Nat × Nat × mu_H) (fun zs => (77, [(2, .inl (nI zs.1)), (3, .inl (nI zs.2.1)), (0, .inr (.inr (some 147))), (1, .inl (nI r))], [], zs.2.2)) (fun zs => mb (r + 1) - zs.2.1) (fun zs => um m zs.2.2 ∧ ur m C H zs.2.2 ∧ (uq F325a (upI (upA (upI (upA (upA (upA (upI U 147 22 (nI (en + 1))) 147 10 (r * 7 + 1) (nI (en + 1))) 147 10 (r * 7 + 3) (0 : Int32)) 147 10 (ps * 7 + 5) (nI r)) 147 20 (nI (ps + 1))) 147 10 (ls * 7 + 6) (nI r)) 147 21 (nI (ls + 1))) (ud m zs.2.2)) ∧ (mb r ≤ zs.2.1 ∧ zs.2.1 ≤ mb (r + 1)) ∧ (zs.1 ≤ 1) ∧ (LQX (fun t => bts (U.2.2.2.2.1 153) t = true) (fun t => bts (U.2.2.2.2.1 146) t = true) me (mb r) zs.2.1 zs.1) ∧ (∀ t, bts ((ud m zs.2.2).2.2.2.2.1 150) t = true ↔ bts (U.2.2.2.2.1 150) t = true ∧ ¬ ∃ i, mb r ≤ i ∧ i < zs.2.1 ∧ me i = t ∧ bts (U.2.2.2.2.1 153) t = true) ∧ (∀ t, bts ((ud m zs.2.2).2.2.2.2.1 151) t = true ↔ bts (U.2.2.2.2.1 151) t = true ∨ ∃ i, mb r ≤ i ∧ i < zs.2.1 ∧ me i = t ∧ bts (U.2.2.2.2.1 153) t = true)) (fun zs hza iha => ?_) (0, mb r, Q7) ⟨u7, ht7, (show uq F325a (upI (upA (upI (upA (upA (upA (upI U 147 22 (nI (en + 1))) 147 10 (r * 7 + 1) (nI (en + 1))) 147 10 (r * 7 + 3) (0 : Int32)) 147 10 (ps * 7 + 5) (nI r)) 147 20 (nI (ps + 1))) 147 10 (ls * 7 + 6) (nI r)) 147 21 (nI (ls + 1))) (ud m Q7) from by rw [d7]; exact uq.refl _ _), (show mb r ≤ (mb r) ∧ (mb r) ≤ mb (r + 1) from ⟨Nat.le_refl _, hr1⟩), (show 0 ≤ 1 from (by decide)), (show LQX (fun t => bts (U.2.2.2.2.1 153) t = true) (fun t => bts (U.2.2.2.2.1 146) t = true) me (mb r) (mb r) 0 from LQX.zero), (show ∀ t, bts ((ud m Q7).2.2.2.2.1 150) t = true ↔ bts (U.2.2.2.2.1 150) t = true ∧ ¬ ∃ i, mb r ≤ i ∧ i < (mb r) ∧ me i = t ∧ bts (U.2.2.2.2.1 153) t = true from by rw [d7]; exact (fun t => ⟨fun y => ⟨y, fun ⟨i, y1, y2, _⟩ => absurd y2 (by omega)⟩, fun y => y.1⟩)), (show ∀ t, bts ((ud m Q7).2.2.2.2.1 151) t = true ↔ bts (U.2.2.2.2.1 151) t = true ∨ ∃ i, mb r ≤ i ∧ i < (mb r) ∧ me i = t ∧ bts (U.2.2.2.2.1 153) t = true from by rw [d7]; exact (fun t => ⟨fun y => Or.inl y, fun y => y.resolve_right (fun ⟨i, y1, y2, _⟩ => absurd y2 (by omega))⟩))⟩
  obtain ⟨lq, x, Hsa⟩ := zs
  obtain ⟨ua, hta, da, hx, hlq1, hlq, hun, hpv⟩ := hza
  have ua : um m Hsa := ua
  have hta : ur m C H Hsa := hta
  have zza : uq F325a (upI (upA (upI (upA (upA (upA (upI U 147 22 (nI (en + 1))) 147 10 (r * 7 + 1) (nI (en + 1))) 147 10 (r * 7 + 3) (0 : Int32)) 147 10 (ps * 7 + 5) (nI r)) 147 20 (nI (ps + 1))) 147 10 (ls * 7 + 6) (nI r)) 147 21 (nI (ls + 1))) (ud m Hsa) := da
  have hx : mb r ≤ x ∧ x ≤ mb (r + 1) := hx
  have hlq1 : lq ≤ 1 := hlq1
  have hlq : LQX (fun t => bts (U.2.2.2.2.1 153) t = true) (fun t => bts (U.2.2.2.2.1 146) t = true) me (mb r) x lq := hlq
  have hun : ∀ t, bts ((ud m Hsa).2.2.2.2.1 150) t = true ↔ bts (U.2.2.2.2.1 150) t = true ∧ ¬ ∃ i, mb r ≤ i ∧ i < x ∧ me i = t ∧ bts (U.2.2.2.2.1 153) t = true := hun
  have hpv : ∀ t, bts ((ud m Hsa).2.2.2.2.1 151) t = true ↔ bts (U.2.2.2.2.1 151) t = true ∨ ∃ i, mb r ≤ i ∧ i < x ∧ me i = t ∧ bts (U.2.2.2.2.1 153) t = true := hpv
  obtain ⟨Va, da⟩ : ∃ V, ud m Hsa = V := ⟨_, rfl⟩
  rw [da] at zza hun hpv
  have qfa : uq F325 U Va := qf7.tr zza rfl
  show mu_W _ _ (77, [(2, .inl (nI lq)), (3, .inl (nI x)), (0, .inr (.inr (some 147))), (1, .inl (nI r))], [], Hsa) _
  refine mw_go mu_g325 (k := 5) (f1 := (82, [(2, .inl (nI lq)), (3, .inl (nI x)), (0, .inr (.inr (some 147))), (1, .inl (nI r))], [.inl ((nI r) + (1 : Int32)), .inr (.inr (some 147)), .inl (nI x)], Hsa)) (C := []) rfl trivial ?_
  rw [(show ((nI r) + (1 : Int32)) = (nI (r + 1)) from (nI_add r 1))]
  refine mw_go mu_g325 (k := 1) (f1 := (83, [(2, .inl (nI lq)), (3, .inl (nI x)), (0, .inr (.inr (some 147))), (1, .inl (nI r))], [.inl (0 : Int32), .inl (nI (r + 1)), .inr (.inr (some 147)), .inl (nI x)], Hsa)) (C := []) rfl trivial ?_
  refine mw_cIe (fun _ => rfl) (show mu_is Hsa (some 147) 2 from (ua.1.1.is rfl)) (gr_node (d := (d + 2)) (r := r + 1) (c := 0) ua da (by (rw [(show (Va.2.2.1 147 10).1 = (U.2.2.1 147 10).1 from (zza.n 147 10 rfl))]; omega)) (by (rw [(show (Va.2.2.1 147 10).1 = (U.2.2.1 147 10).1 from (zza.n 147 10 rfl))]; omega))) ?_
  rw [show (Va.2.2.1 147 10).2 ((r + 1) * 7 + 0) = nI (mb (r + 1)) from (by rw [show Va.2.2.1 147 10 = (upI (upA (upI (upA (upA (upA (upI U 147 22 (nI (en + 1))) 147 10 (r * 7 + 1) (nI (en + 1))) 147 10 (r * 7 + 3) (0 : Int32)) 147 10 (ps * 7 + 5) (nI r)) 147 20 (nI (ps + 1))) 147 10 (ls * 7 + 6) (nI r)) 147 21 (nI (ls + 1))).2.2.1 147 10 from (zza.a 147 10 rfl), hcell, if_neg (by omega), if_neg (by omega), if_neg (by omega), if_neg (by omega)]; exact hmb (r + 1) (by omega))]
  refine mw_if (P := (nI x) < (nI (mb (r + 1)))) (a := 89) (b := 168) (fun _ => rfl) trivial (fun h10 => ?_) (fun h10 => ?_)
  · -- 89: (nI x) < (nI (mb (r + 1)))
    have nh10 : x < (mb (r + 1)) := (nI_ltI (by omega) (by omega)).mp (show nI x < nI (mb (r + 1)) from h10)
    refine mw_go mu_g325 (k := 2) (f1 := (93, [(2, .inl (nI lq)), (3, .inl (nI x)), (0, .inr (.inr (some 147))), (1, .inl (nI r))], [.inr (.inr (mu_r Hsa 147 11))], Hsa)) (C := [mu_is Hsa (some 147) 2]) rfl (show mu_is Hsa (some 147) 2 from (ua.1.1.is rfl)) ?_
    rw [(show mu_r Hsa 147 11 = (U.2.2.2.1 147 11) from (ud_q (U := Va) (m := m) (P := 147) (j := 11) da rfl).trans (zza.r 147 11 rfl))]
    refine mw_go mu_g325 (k := 2) (f1 := (95, [(2, .inl (nI lq)), (3, .inl (nI x)), (0, .inr (.inr (some 147))), (1, .inl (nI r))], [.inl (mu_i Hsa (mu_p (U.2.2.2.1 147 11)) (nI x).toNatClampNeg)], Hsa)) (C := [mu_isr Hsa (U.2.2.2.1 147 11) 100, vp_in (nI x) (mu_n Hsa (mu_p (U.2.2.2.1 147 11)))]) rfl (show (mu_isr Hsa (U.2.2.2.1 147 11) 100) ∧ (vp_in (nI x) (mu_n Hsa (mu_p (U.2.2.2.1 147 11)))) from ⟨((ua.iA da rfl rfl (show Va.2.2.2.1 147 11 = (U.2.2.2.1 147 11) from (zza.r 147 11 rfl)))).r, (ua.vA (i := x) da rfl rfl (show Va.2.2.2.1 147 11 = (U.2.2.2.1 147 11) from (zza.r 147 11 rfl)) (show (Va.2.2.1 147 11).1 = (U.2.2.1 147 11).1 from (zza.n 147 11 rfl)) (by omega) (by omega))⟩) ?_
    rw [(show (mu_i Hsa (mu_p (U.2.2.2.1 147 11)) (nI x).toNatClampNeg) = (nI (me x)) from ((congrArg (mu_i Hsa (mu_p (U.2.2.2.1 147 11))) (show (nI x).toNatClampNeg = x from nI_clamp (by omega))).trans (ua.gA da rfl rfl (show Va.2.2.2.1 147 11 = (U.2.2.2.1 147 11) from (zza.r 147 11 rfl)))).trans ((congrArg (fun z => z.2 x) (show Va.2.2.1 147 11 = (U.2.2.1 147 11) from (zza.a 147 11 rfl))).trans (hme x (by omega)).1))]
    have hmx : me x < T := (hme x (by omega)).2
    refine mw_go mu_g325 (k := 3) (f1 := (101, [(4, .inl (nI (me x))), (2, .inl (nI lq)), (3, .inl (nI x)), (0, .inr (.inr (some 147))), (1, .inl (nI r))], [.inr (.inr (mu_r Hsa 147 7))], Hsa)) (C := [mu_is Hsa (some 147) 2]) rfl (show mu_is Hsa (some 147) 2 from (ua.1.1.is rfl)) ?_
    rw [(ua.1.1.r (p := 147) (j := 7) (q := 153) rfl)]
    refine mw_go mu_g325 (k := 1) (f1 := (103, [(4, .inl (nI (me x))), (2, .inl (nI lq)), (3, .inl (nI x)), (0, .inr (.inr (some 147))), (1, .inl (nI r))], [.inl (nI (me x)), .inr (.inr (some 153))], Hsa)) (C := []) rfl trivial ?_
    refine mw_cI (fun _ => rfl) trivial ((pv_has_153 (d := (d + 2)) (k := (me x)) ua da (by omega)).imp (fun _ _ z => has_alt (b := bts (Va.2.2.2.2.1 153) (me x)) z)) (fun x11 H11 q11 => ?_)
    rcases q11 with ⟨rfl, hb11, rfl⟩ | ⟨rfl, hb11, rfl⟩
    · -- (1 : Int32)
      have khb11 : bts (U.2.2.2.2.1 153) (me x) = true := by rw [← (show (Va.2.2.2.2.1 153) = (U.2.2.2.2.1 153) from (zza.l 153 rfl))]; exact hb11
      refine mw_if (P := (1 : Int32) = 0) (a := 162) (b := 109) (fun _ => rfl) trivial (fun h12 => absurd h12 (by decide)) (fun h12 => ?_)
      refine mw_go mu_g325 (k := 2) (f1 := (113, [(4, .inl (nI (me x))), (2, .inl (nI lq)), (3, .inl (nI x)), (0, .inr (.inr (some 147))), (1, .inl (nI r))], [.inr (.inr (mu_r Hsa 147 4))], Hsa)) (C := [mu_is Hsa (some 147) 2]) rfl (show mu_is Hsa (some 147) 2 from (ua.1.1.is rfl)) ?_
      rw [(ua.1.1.r (p := 147) (j := 4) (q := 150) rfl)]
      refine mw_go mu_g325 (k := 3) (f1 := (118, [(4, .inl (nI (me x))), (2, .inl (nI lq)), (3, .inl (nI x)), (0, .inr (.inr (some 147))), (1, .inl (nI r))], [.inl ((nI (me x)) >>> ((6 : Int32) &&& 31)), .inr (.inr (some 150))], Hsa)) (C := []) rfl trivial ?_
      rw [(show ((nI (me x)) >>> ((6 : Int32) &&& 31)) = (nI ((me x) / 64)) from (nI_shr6 (a := me x) (by omega)))]
      refine mw_go mu_g325 (k := 2) (f1 := (120, [(4, .inl (nI (me x))), (2, .inl (nI lq)), (3, .inl (nI x)), (0, .inr (.inr (some 147))), (1, .inl (nI r))], [.inr (.inl (mu_l Hsa 150 (nI ((me x) / 64)).toNatClampNeg)), .inl (nI ((me x) / 64)), .inr (.inr (some 150))], Hsa)) (C := [mu_isr Hsa (some 150) 102, vp_in (nI ((me x) / 64)) (mu_n Hsa 150)]) rfl (show (mu_isr Hsa (some 150) 102) ∧ (vp_in (nI ((me x) / 64)) (mu_n Hsa 150)) from ⟨((ua.1.1.a (p := 150) (x := (102, 256)) rfl).1).r, (by rw [show mu_n Hsa 150 = 256 from (ua.1.1.a (p := 150) (x := (102, 256)) rfl).2]; exact vp_in_nI (n := (me x) / 64) (by omega) (by decide))⟩) ?_
      rw [(show (mu_l Hsa 150 (nI ((me x) / 64)).toNatClampNeg) = (Va.2.2.2.2.1 150) ((me x) / 64) from (congrArg (mu_l Hsa 150) (show (nI ((me x) / 64)).toNatClampNeg = (me x) / 64 from nI_clamp (by omega))).trans ((ud_l (m := m) (p := 150) (i := ((me x) / 64)) da rfl).trans (congrFun (show Va.2.2.2.2.1 150 = (Va.2.2.2.2.1 150) from rfl) ((me x) / 64))))]
      refine mw_go mu_g325 (k := 7) (f1 := (130, [(4, .inl (nI (me x))), (2, .inl (nI lq)), (3, .inl (nI x)), (0, .inr (.inr (some 147))), (1, .inl (nI r))], [], (mu_sl Hsa 150 (nI ((me x) / 64)).toNatClampNeg (((Va.2.2.2.2.1 150) ((me x) / 64)) &&& (((1 : Int64) <<< ((nI (me x)).toInt64 &&& 63)) ^^^ (-1 : Int64)))))) (C := [mu_is Hsa (some 150) 102, vp_in (nI ((me x) / 64)) (mu_n Hsa 150)]) rfl (show (mu_is Hsa (some 150) 102) ∧ (vp_in (nI ((me x) / 64)) (mu_n Hsa 150)) from ⟨((ua.1.1.a (p := 150) (x := (102, 256)) rfl).1), (by rw [show mu_n Hsa 150 = 256 from (ua.1.1.a (p := 150) (x := (102, 256)) rfl).2]; exact vp_in_nI (n := (me x) / 64) (by omega) (by decide))⟩) ?_
      rw [(show (nI ((me x) / 64)).toNatClampNeg = (me x) / 64 from nI_clamp (by omega))]
      obtain ⟨u13, r13, d13⟩ : um m (mu_sl Hsa 150 ((me x) / 64) (((Va.2.2.2.2.1 150) ((me x) / 64)) &&& (((1 : Int64) <<< ((nI (me x)).toInt64 &&& 63)) ^^^ (-1 : Int64)))) ∧ ur m C Hsa (mu_sl Hsa 150 ((me x) / 64) (((Va.2.2.2.2.1 150) ((me x) / 64)) &&& (((1 : Int64) <<< ((nI (me x)).toInt64 &&& 63)) ^^^ (-1 : Int64)))) ∧ ud m (mu_sl Hsa 150 ((me x) / 64) (((Va.2.2.2.2.1 150) ((me x) / 64)) &&& (((1 : Int64) <<< ((nI (me x)).toInt64 &&& 63)) ^^^ (-1 : Int64)))) = (upL Va 150 ((me x) / 64) (((Va.2.2.2.2.1 150) ((me x) / 64)) &&& (((1 : Int64) <<< ((nI (me x)).toInt64 &&& 63)) ^^^ (-1 : Int64)))) := ua.sL (C := C) da rfl
      generalize (mu_sl Hsa 150 ((me x) / 64) (((Va.2.2.2.2.1 150) ((me x) / 64)) &&& (((1 : Int64) <<< ((nI (me x)).toInt64 &&& 63)) ^^^ (-1 : Int64)))) = Q13 at u13 r13 d13 ⊢
      have qf13 : uq F325 U (upL Va 150 ((me x) / 64) (((Va.2.2.2.2.1 150) ((me x) / 64)) &&& (((1 : Int64) <<< ((nI (me x)).toInt64 &&& 63)) ^^^ (-1 : Int64)))) := qfa.L rfl
      have ht13 : ur m C H Q13 := hta.trans r13
      refine mw_go mu_g325 (k := 2) (f1 := (134, [(4, .inl (nI (me x))), (2, .inl (nI lq)), (3, .inl (nI x)), (0, .inr (.inr (some 147))), (1, .inl (nI r))], [.inr (.inr (mu_r Q13 147 5))], Q13)) (C := [mu_is Q13 (some 147) 2]) rfl (show mu_is Q13 (some 147) 2 from (u13.1.1.is rfl)) ?_
      rw [(u13.1.1.r (p := 147) (j := 5) (q := 151) rfl)]
      refine mw_go mu_g325 (k := 3) (f1 := (139, [(4, .inl (nI (me x))), (2, .inl (nI lq)), (3, .inl (nI x)), (0, .inr (.inr (some 147))), (1, .inl (nI r))], [.inl ((nI (me x)) >>> ((6 : Int32) &&& 31)), .inr (.inr (some 151))], Q13)) (C := []) rfl trivial ?_
      rw [(show ((nI (me x)) >>> ((6 : Int32) &&& 31)) = (nI ((me x) / 64)) from (nI_shr6 (a := me x) (by omega)))]
      refine mw_go mu_g325 (k := 2) (f1 := (141, [(4, .inl (nI (me x))), (2, .inl (nI lq)), (3, .inl (nI x)), (0, .inr (.inr (some 147))), (1, .inl (nI r))], [.inr (.inl (mu_l Q13 151 (nI ((me x) / 64)).toNatClampNeg)), .inl (nI ((me x) / 64)), .inr (.inr (some 151))], Q13)) (C := [mu_isr Q13 (some 151) 102, vp_in (nI ((me x) / 64)) (mu_n Q13 151)]) rfl (show (mu_isr Q13 (some 151) 102) ∧ (vp_in (nI ((me x) / 64)) (mu_n Q13 151)) from ⟨((u13.1.1.a (p := 151) (x := (102, 256)) rfl).1).r, (by rw [show mu_n Q13 151 = 256 from (u13.1.1.a (p := 151) (x := (102, 256)) rfl).2]; exact vp_in_nI (n := (me x) / 64) (by omega) (by decide))⟩) ?_
      rw [(show (mu_l Q13 151 (nI ((me x) / 64)).toNatClampNeg) = (Va.2.2.2.2.1 151) ((me x) / 64) from (congrArg (mu_l Q13 151) (show (nI ((me x) / 64)).toNatClampNeg = (me x) / 64 from nI_clamp (by omega))).trans ((ud_l (m := m) (p := 151) (i := ((me x) / 64)) d13 rfl).trans (congrFun (show (upL Va 150 ((me x) / 64) (((Va.2.2.2.2.1 150) ((me x) / 64)) &&& (((1 : Int64) <<< ((nI (me x)).toInt64 &&& 63)) ^^^ (-1 : Int64)))).2.2.2.2.1 151 = (Va.2.2.2.2.1 151) from rfl) ((me x) / 64))))]
      refine mw_go mu_g325 (k := 5) (f1 := (147, [(4, .inl (nI (me x))), (2, .inl (nI lq)), (3, .inl (nI x)), (0, .inr (.inr (some 147))), (1, .inl (nI r))], [], (mu_sl Q13 151 (nI ((me x) / 64)).toNatClampNeg (((Va.2.2.2.2.1 151) ((me x) / 64)) ||| ((1 : Int64) <<< ((nI (me x)).toInt64 &&& 63)))))) (C := [mu_is Q13 (some 151) 102, vp_in (nI ((me x) / 64)) (mu_n Q13 151)]) rfl (show (mu_is Q13 (some 151) 102) ∧ (vp_in (nI ((me x) / 64)) (mu_n Q13 151)) from ⟨((u13.1.1.a (p := 151) (x := (102, 256)) rfl).1), (by rw [show mu_n Q13 151 = 256 from (u13.1.1.a (p := 151) (x := (102, 256)) rfl).2]; exact vp_in_nI (n := (me x) / 64) (by omega) (by decide))⟩) ?_
      rw [(show (nI ((me x) / 64)).toNatClampNeg = (me x) / 64 from nI_clamp (by omega))]
      obtain ⟨u14, r14, d14⟩ : um m (mu_sl Q13 151 ((me x) / 64) (((Va.2.2.2.2.1 151) ((me x) / 64)) ||| ((1 : Int64) <<< ((nI (me x)).toInt64 &&& 63)))) ∧ ur m C Q13 (mu_sl Q13 151 ((me x) / 64) (((Va.2.2.2.2.1 151) ((me x) / 64)) ||| ((1 : Int64) <<< ((nI (me x)).toInt64 &&& 63)))) ∧ ud m (mu_sl Q13 151 ((me x) / 64) (((Va.2.2.2.2.1 151) ((me x) / 64)) ||| ((1 : Int64) <<< ((nI (me x)).toInt64 &&& 63)))) = (upL (upL Va 150 ((me x) / 64) (((Va.2.2.2.2.1 150) ((me x) / 64)) &&& (((1 : Int64) <<< ((nI (me x)).toInt64 &&& 63)) ^^^ (-1 : Int64)))) 151 ((me x) / 64) (((Va.2.2.2.2.1 151) ((me x) / 64)) ||| ((1 : Int64) <<< ((nI (me x)).toInt64 &&& 63)))) := u13.sL (C := C) d13 rfl
      generalize (mu_sl Q13 151 ((me x) / 64) (((Va.2.2.2.2.1 151) ((me x) / 64)) ||| ((1 : Int64) <<< ((nI (me x)).toInt64 &&& 63)))) = Q14 at u14 r14 d14 ⊢
      have qf14 : uq F325 U (upL (upL Va 150 ((me x) / 64) (((Va.2.2.2.2.1 150) ((me x) / 64)) &&& (((1 : Int64) <<< ((nI (me x)).toInt64 &&& 63)) ^^^ (-1 : Int64)))) 151 ((me x) / 64) (((Va.2.2.2.2.1 151) ((me x) / 64)) ||| ((1 : Int64) <<< ((nI (me x)).toInt64 &&& 63)))) := qf13.L rfl
      have ht14 : ur m C H Q14 := ht13.trans r14
      refine mw_go mu_g325 (k := 3) (f1 := (152, [(4, .inl (nI (me x))), (2, .inl (nI lq)), (3, .inl (nI x)), (0, .inr (.inr (some 147))), (1, .inl (nI r))], [.inr (.inr (mu_r Q14 147 1)), .inl (nI lq)], Q14)) (C := [mu_is Q14 (some 147) 2]) rfl (show mu_is Q14 (some 147) 2 from (u14.1.1.is rfl)) ?_
      rw [(u14.1.1.r (p := 147) (j := 1) (q := 129) rfl)]
      refine mw_go mu_g325 (k := 1) (f1 := (155, [(4, .inl (nI (me x))), (2, .inl (nI lq)), (3, .inl (nI x)), (0, .inr (.inr (some 147))), (1, .inl (nI r))], [.inr (.inr (mu_r Q14 129 18)), .inl (nI lq)], Q14)) (C := [mu_is Q14 (some 129) 9]) rfl (show mu_is Q14 (some 129) 9 from (u14.1.1.is rfl)) ?_
      rw [(u14.1.1.r (p := 129) (j := 18) (q := 146) rfl)]
      refine mw_go mu_g325 (k := 1) (f1 := (157, [(4, .inl (nI (me x))), (2, .inl (nI lq)), (3, .inl (nI x)), (0, .inr (.inr (some 147))), (1, .inl (nI r))], [.inl (nI (me x)), .inr (.inr (some 146)), .inl (nI lq)], Q14)) (C := []) rfl trivial ?_
      refine mw_cI (fun _ => rfl) trivial ((pv_has_146 (d := (d + 2)) (k := (me x)) u14 d14 (by omega)).imp (fun _ _ z => has_alt (b := bts ((upL (upL Va 150 ((me x) / 64) (((Va.2.2.2.2.1 150) ((me x) / 64)) &&& (((1 : Int64) <<< ((nI (me x)).toInt64 &&& 63)) ^^^ (-1 : Int64)))) 151 ((me x) / 64) (((Va.2.2.2.2.1 151) ((me x) / 64)) ||| ((1 : Int64) <<< ((nI (me x)).toInt64 &&& 63)))).2.2.2.2.1 146) (me x)) z)) (fun x15 H15 q15 => ?_)
      rcases q15 with ⟨rfl, hb15, rfl⟩ | ⟨rfl, hb15, rfl⟩
      · -- (1 : Int32)
        have khb15 : bts (U.2.2.2.2.1 146) (me x) = true := by rw [← (show ((upL (upL Va 150 ((me x) / 64) (((Va.2.2.2.2.1 150) ((me x) / 64)) &&& (((1 : Int64) <<< ((nI (me x)).toInt64 &&& 63)) ^^^ (-1 : Int64)))) 151 ((me x) / 64) (((Va.2.2.2.2.1 151) ((me x) / 64)) ||| ((1 : Int64) <<< ((nI (me x)).toInt64 &&& 63)))).2.2.2.2.1 146) = (U.2.2.2.2.1 146) from (zza.l 146 rfl))]; exact hb15
        refine mw_go mu_g325 (k := 1) (f1 := (161, [(4, .inl (nI (me x))), (2, .inl (nI lq)), (3, .inl (nI x)), (0, .inr (.inr (some 147))), (1, .inl (nI r))], [.inl ((nI lq) ||| (1 : Int32))], Q14)) (C := []) rfl trivial ?_
        rw [show ((nI lq) ||| (1 : Int32)) = nI 1 from orb1 hlq1]
        refine mw_go mu_g325 (k := 2) (f1 := (165, [(3, .inl ((nI x) + 1)), (2, .inl (nI 1)), (4, .inl (nI (me x))), (0, .inr (.inr (some 147))), (1, .inl (nI r))], [], Q14)) (C := []) rfl trivial ?_
        rw [(show ((nI x) + 1) = (nI (x + 1)) from (nI_add x 1))]
        refine mw_go mu_g325 (k := 1) (f1 := (77, [(3, .inl (nI (x + 1))), (2, .inl (nI 1)), (4, .inl (nI (me x))), (0, .inr (.inr (some 147))), (1, .inl (nI r))], [], Q14)) (C := []) rfl trivial ?_
        exact mw_sub (by simp) (iha (1, x + 1, Q14) ⟨u14, ht14, (show uq F325a (upI (upA (upI (upA (upA (upA (upI U 147 22 (nI (en + 1))) 147 10 (r * 7 + 1) (nI (en + 1))) 147 10 (r * 7 + 3) (0 : Int32)) 147 10 (ps * 7 + 5) (nI r)) 147 20 (nI (ps + 1))) 147 10 (ls * 7 + 6) (nI r)) 147 21 (nI (ls + 1))) (ud m Q14) from by rw [d14]; exact ((zza.L rfl).L rfl)), (show mb r ≤ (x + 1) ∧ (x + 1) ≤ mb (r + 1) from (by omega)), (show 1 ≤ 1 from (Nat.le_refl 1)), (show LQX (fun t => bts (U.2.2.2.2.1 153) t = true) (fun t => bts (U.2.2.2.2.1 146) t = true) me (mb r) (x + 1) 1 from (LQX.yes (by omega) khb11 khb15)), (show ∀ t, bts ((ud m Q14).2.2.2.2.1 150) t = true ↔ bts (U.2.2.2.2.1 150) t = true ∧ ¬ ∃ i, mb r ≤ i ∧ i < (x + 1) ∧ me i = t ∧ bts (U.2.2.2.2.1 153) t = true from by rw [d14]; exact (fun t => by rw [upL_ne (by decide), upL_at, bts_setoff (by omega), hun t]; exact mem_off (A := fun t => bts (U.2.2.2.2.1 153) t = true) (by omega) khb11)), (show ∀ t, bts ((ud m Q14).2.2.2.2.1 151) t = true ↔ bts (U.2.2.2.2.1 151) t = true ∨ ∃ i, mb r ≤ i ∧ i < (x + 1) ∧ me i = t ∧ bts (U.2.2.2.2.1 153) t = true from by rw [d14]; exact (fun t => by rw [upL_at, upL_ne (by decide), bts_seton (by omega), hpv t]; exact mem_on (A := fun t => bts (U.2.2.2.2.1 153) t = true) (by omega) khb11))⟩ (by show mb (r + 1) - (x + 1) < mb (r + 1) - x; omega))
      · -- (0 : Int32)
        have khb15 : bts (U.2.2.2.2.1 146) (me x) = false := by rw [← (show ((upL (upL Va 150 ((me x) / 64) (((Va.2.2.2.2.1 150) ((me x) / 64)) &&& (((1 : Int64) <<< ((nI (me x)).toInt64 &&& 63)) ^^^ (-1 : Int64)))) 151 ((me x) / 64) (((Va.2.2.2.2.1 151) ((me x) / 64)) ||| ((1 : Int64) <<< ((nI (me x)).toInt64 &&& 63)))).2.2.2.2.1 146) = (U.2.2.2.2.1 146) from (zza.l 146 rfl))]; exact hb15
        refine mw_go mu_g325 (k := 1) (f1 := (161, [(4, .inl (nI (me x))), (2, .inl (nI lq)), (3, .inl (nI x)), (0, .inr (.inr (some 147))), (1, .inl (nI r))], [.inl ((nI lq) ||| (0 : Int32))], Q14)) (C := []) rfl trivial ?_
        rw [show ((nI lq) ||| (0 : Int32)) = nI lq from orb0 hlq1]
        refine mw_go mu_g325 (k := 2) (f1 := (165, [(3, .inl ((nI x) + 1)), (2, .inl (nI lq)), (4, .inl (nI (me x))), (0, .inr (.inr (some 147))), (1, .inl (nI r))], [], Q14)) (C := []) rfl trivial ?_
        rw [(show ((nI x) + 1) = (nI (x + 1)) from (nI_add x 1))]
        refine mw_go mu_g325 (k := 1) (f1 := (77, [(3, .inl (nI (x + 1))), (2, .inl (nI lq)), (4, .inl (nI (me x))), (0, .inr (.inr (some 147))), (1, .inl (nI r))], [], Q14)) (C := []) rfl trivial ?_
        exact mw_sub (by simp) (iha (lq, x + 1, Q14) ⟨u14, ht14, (show uq F325a (upI (upA (upI (upA (upA (upA (upI U 147 22 (nI (en + 1))) 147 10 (r * 7 + 1) (nI (en + 1))) 147 10 (r * 7 + 3) (0 : Int32)) 147 10 (ps * 7 + 5) (nI r)) 147 20 (nI (ps + 1))) 147 10 (ls * 7 + 6) (nI r)) 147 21 (nI (ls + 1))) (ud m Q14) from by rw [d14]; exact ((zza.L rfl).L rfl)), (show mb r ≤ (x + 1) ∧ (x + 1) ≤ mb (r + 1) from (by omega)), (show lq ≤ 1 from hlq1), (show LQX (fun t => bts (U.2.2.2.2.1 153) t = true) (fun t => bts (U.2.2.2.2.1 146) t = true) me (mb r) (x + 1) lq from (hlq.no (fun z => by have z := z.2; have z : bts (U.2.2.2.2.1 146) (me x) = true := z; rw [khb15] at z; cases z))), (show ∀ t, bts ((ud m Q14).2.2.2.2.1 150) t = true ↔ bts (U.2.2.2.2.1 150) t = true ∧ ¬ ∃ i, mb r ≤ i ∧ i < (x + 1) ∧ me i = t ∧ bts (U.2.2.2.2.1 153) t = true from by rw [d14]; exact (fun t => by rw [upL_ne (by decide), upL_at, bts_setoff (by omega), hun t]; exact mem_off (A := fun t => bts (U.2.2.2.2.1 153) t = true) (by omega) khb11)), (show ∀ t, bts ((ud m Q14).2.2.2.2.1 151) t = true ↔ bts (U.2.2.2.2.1 151) t = true ∨ ∃ i, mb r ≤ i ∧ i < (x + 1) ∧ me i = t ∧ bts (U.2.2.2.2.1 153) t = true from by rw [d14]; exact (fun t => by rw [upL_at, upL_ne (by decide), bts_seton (by omega), hpv t]; exact mem_on (A := fun t => bts (U.2.2.2.2.1 153) t = true) (by omega) khb11))⟩ (by show mb (r + 1) - (x + 1) < mb (r + 1) - x; omega))
    · -- (0 : Int32)
      have khb11 : bts (U.2.2.2.2.1 153) (me x) = false := by rw [← (show (Va.2.2.2.2.1 153) = (U.2.2.2.2.1 153) from (zza.l 153 rfl))]; exact hb11
      refine mw_if (P := (0 : Int32) = 0) (a := 162) (b := 109) (fun _ => rfl) trivial (fun h16 => ?_) (fun h16 => absurd (by decide) h16)
      refine mw_go mu_g325 (k := 1) (f1 := (165, [(3, .inl ((nI x) + 1)), (4, .inl (nI (me x))), (2, .inl (nI lq)), (0, .inr (.inr (some 147))), (1, .inl (nI r))], [], Hsa)) (C := []) rfl trivial ?_
      rw [(show ((nI x) + 1) = (nI (x + 1)) from (nI_add x 1))]
      refine mw_go mu_g325 (k := 1) (f1 := (77, [(3, .inl (nI (x + 1))), (4, .inl (nI (me x))), (2, .inl (nI lq)), (0, .inr (.inr (some 147))), (1, .inl (nI r))], [], Hsa)) (C := []) rfl trivial ?_
      exact mw_sub (by simp) (iha (lq, x + 1, Hsa) ⟨ua, hta, (show uq F325a (upI (upA (upI (upA (upA (upA (upI U 147 22 (nI (en + 1))) 147 10 (r * 7 + 1) (nI (en + 1))) 147 10 (r * 7 + 3) (0 : Int32)) 147 10 (ps * 7 + 5) (nI r)) 147 20 (nI (ps + 1))) 147 10 (ls * 7 + 6) (nI r)) 147 21 (nI (ls + 1))) (ud m Hsa) from by rw [da]; exact zza), (show mb r ≤ (x + 1) ∧ (x + 1) ≤ mb (r + 1) from (by omega)), (show lq ≤ 1 from hlq1), (show LQX (fun t => bts (U.2.2.2.2.1 153) t = true) (fun t => bts (U.2.2.2.2.1 146) t = true) me (mb r) (x + 1) lq from (hlq.no (fun z => by have z := z.1; have z : bts (U.2.2.2.2.1 153) (me x) = true := z; rw [khb11] at z; cases z))), (show ∀ t, bts ((ud m Hsa).2.2.2.2.1 150) t = true ↔ bts (U.2.2.2.2.1 150) t = true ∧ ¬ ∃ i, mb r ≤ i ∧ i < (x + 1) ∧ me i = t ∧ bts (U.2.2.2.2.1 153) t = true from by rw [da]; exact (fun t => by rw [hun t, (mem_no (A := fun t => bts (U.2.2.2.2.1 153) t = true) (me := me) (a := mb r) (x := x) (t := t) (fun z => by rw [khb11] at z; cases z))])), (show ∀ t, bts ((ud m Hsa).2.2.2.2.1 151) t = true ↔ bts (U.2.2.2.2.1 151) t = true ∨ ∃ i, mb r ≤ i ∧ i < (x + 1) ∧ me i = t ∧ bts (U.2.2.2.2.1 153) t = true from by rw [da]; exact (fun t => by rw [hpv t, (mem_no (A := fun t => bts (U.2.2.2.2.1 153) t = true) (me := me) (a := mb r) (x := x) (t := t) (fun z => by rw [khb11] at z; cases z))]))⟩ (by show mb (r + 1) - (x + 1) < mb (r + 1) - x; omega))
  · -- 168: not (nI x) < (nI (mb (r + 1)))
    have nh10 : ¬ x < (mb (r + 1)) := fun z => h10 (show nI x < nI (mb (r + 1)) from (nI_ltI (by omega) (by omega)).mpr z)
    refine mw_go mu_g325 (k := 6) (f1 := (176, [(2, .inl (nI lq)), (3, .inl (nI x)), (0, .inr (.inr (some 147))), (1, .inl (nI r))], [.inr (.inr (mu_r Hsa 147 8)), .inr (.inr (some 147)), .inl (4 : Int32), .inl (nI r), .inr (.inr (some 147))], Hsa)) (C := [mu_is Hsa (some 147) 2]) rfl (show mu_is Hsa (some 147) 2 from (ua.1.1.is rfl)) ?_
    rw [(show mu_r Hsa 147 8 = (some gq) from (ud_q (U := Va) (m := m) (P := 147) (j := 8) da rfl).trans ((zza.r 147 8 rfl).trans hgo))]
    have hqm : uq F325 U Va := (show uq F325 U Va from (((((((((uq.refl F325 U).I rfl).A rfl).A rfl).A rfl).I rfl).A rfl).I rfl).tr zza rfl))
    have hexit : x = mb (r + 1) := by omega
    refine mw_cI (fun _ => rfl) (show mu_is Hsa (some 147) 2 from (ua.1.1.is rfl)) (gr_meetsG (d := (d + 2)) (bf := bf) (bt := bt) ua da (hz.q hqm rfl rfl rfl) (hgl.q hqm (fun _ => rfl) (fun _ => rfl) rfl)) (fun x17 H17 q17 => ?_)
    rw [hqm.l 146 rfl, lsf_q hgl hqm rfl rfl rfl] at q17
    obtain ⟨qe17, q17⟩ := q17
    rw [qe17]
    rcases q17 with ⟨rfl, hmee⟩ | ⟨rfl, hmee⟩
    all_goals replace hmee := HID.mk hmee
    · -- meets (0 : Int32)
      refine mw_if (P := (0 : Int32) = 0) (a := 186) (b := 182) (fun _ => rfl) trivial (fun h18 => ?_) (fun h18 => absurd (by decide) h18)
      refine mw_go mu_g325 (k := 2) (f1 := (188, [(2, .inl (nI lq)), (3, .inl (nI x)), (0, .inr (.inr (some 147))), (1, .inl (nI r))], [.inl (nI lq), .inl (0 : Int32), .inl (4 : Int32), .inl (nI r), .inr (.inr (some 147))], Hsa)) (C := []) rfl trivial ?_
      refine mw_if (P := (nI lq) = 0) (a := 195) (b := 191) (fun _ => rfl) trivial (fun h19 => ?_) (fun h19 => ?_)
      · -- 195: (nI lq) = 0
        have nh19 : lq = 0 := (nI_eq (by omega) (by omega)).mp (show nI lq = nI 0 from h19)
        have hlq2 : lq = 0 := by omega
        refine mw_go mu_g325 (k := 2) (f1 := (197, [(2, .inl (nI lq)), (3, .inl (nI x)), (0, .inr (.inr (some 147))), (1, .inl (nI r))], [.inl ((0 : Int32) ||| (0 : Int32)), .inl (4 : Int32), .inl (nI r), .inr (.inr (some 147))], Hsa)) (C := []) rfl trivial ?_
        rw [show ((0 : Int32) ||| (0 : Int32)) = nI 0 from by decide]
        refine mw_cV (fun _ => rfl) (show mu_is Hsa (some 147) 2 from (ua.1.1.is rfl)) (gr_set (d := (d + 2)) (C := C) (r := r) (c := 4) (v := (nI 0)) ua da (by (rw [(show (Va.2.2.1 147 10).1 = (U.2.2.1 147 10).1 from (zza.n 147 10 rfl))]; omega)) (by (rw [(show (Va.2.2.1 147 10).1 = (U.2.2.1 147 10).1 from (zza.n 147 10 rfl))]; omega))) (fun Q20 q20 => ?_)
        obtain ⟨u20, r20, d20⟩ := q20
        have ht20 : ur m C H Q20 := hta.trans r20
        have qf20 : uq F325 U (upA Va 147 10 (r * 7 + 4) (nI 0)) := qfa.A rfl
        have hcel2 : ∀ j, ((upA Va 147 10 (r * 7 + 4) (nI 0)).2.2.1 147 10).2 j = if j = r * 7 + 4 then nI 0 else (if j = ls * 7 + 6 then nI r else if j = ps * 7 + 5 then nI r else if j = r * 7 + 3 then 0 else if j = r * 7 + 1 then nI (en + 1) else (U.2.2.1 147 10).2 j) := fun j => by
          show (if j = r * 7 + 4 then nI 0 else (Va.2.2.1 147 10).2 j) = _
          rw [zza.a 147 10 rfl, hcell]
        have hqw : uq F325 U (upA Va 147 10 (r * 7 + 4) (nI 0)) := (show uq F325 U (upA Va 147 10 (r * 7 + 4) (nI 0)) from ((((((((((uq.refl F325 U).I rfl).A rfl).A rfl).A rfl).I rfl).A rfl).I rfl).tr zza rfl).A rfl))
        have hun2 : ∀ t, t < T → (bts ((upA Va 147 10 (r * 7 + 4) (nI 0)).2.2.2.2.1 150) t = true ↔ bts (U.2.2.2.2.1 150) t = true ∧ ¬ (bts (U.2.2.2.2.1 153) t = true ∧ rx t = r)) := fun t htT => by
          refine (hun t).trans (and_congr Iff.rfl (not_congr ?_))
          rw [hexit]
          constructor
          · rintro ⟨i, y1, y2, y3, y4⟩; exact ⟨y4, ((MBP.mem ⟨hmp1, hmp2, hmp3, hmp4⟩ hr htT).mp ⟨i, y1, y2, y3⟩)⟩
          · rintro ⟨y4, y5⟩; obtain ⟨i, y1, y2, y3⟩ := (MBP.mem ⟨hmp1, hmp2, hmp3, hmp4⟩ hr htT).mpr y5; exact ⟨i, y1, y2, y3, y4⟩
        have hpi2 : ∀ t, t < T → (bts ((upA Va 147 10 (r * 7 + 4) (nI 0)).2.2.2.2.1 151) t = true ↔ bts (U.2.2.2.2.1 151) t = true ∨ (bts (U.2.2.2.2.1 153) t = true ∧ rx t = r)) := fun t htT => by
          refine (hpv t).trans (or_congr Iff.rfl ?_)
          rw [hexit]
          constructor
          · rintro ⟨i, y1, y2, y3, y4⟩; exact ⟨y4, ((MBP.mem ⟨hmp1, hmp2, hmp3, hmp4⟩ hr htT).mp ⟨i, y1, y2, y3⟩)⟩
          · rintro ⟨y4, y5⟩; obtain ⟨i, y1, y2, y3⟩ := (MBP.mem ⟨hmp1, hmp2, hmp3, hmp4⟩ hr htT).mpr y5; exact ⟨i, y1, y2, y3, y4⟩
        have hlp2 : 2 ≤ 0 ↔ ∃ t, t < T ∧ bts (U.2.2.2.2.1 153) t = true ∧ rx t = r ∧ bts (U.2.2.2.2.1 146) t = true := by
          refine Iff.trans (show 2 ≤ 0 ↔ lq = 1 from ⟨fun _ => by omega, fun _ => by omega⟩) (Iff.trans (show lq = 1 ↔ ∃ i, mb r ≤ i ∧ i < x ∧ bts (U.2.2.2.2.1 153) (me i) = true ∧ bts (U.2.2.2.2.1 146) (me i) = true from hlq) ?_)
          rw [hexit]
          constructor
          · rintro ⟨i, y1, y2, y3, y4⟩; exact ⟨me i, (hme i (by omega)).2, y3, hmp2 r i hr y1 y2, y4⟩
          · rintro ⟨t, y0, y1, y2, y3⟩; obtain ⟨i, i1, i2, i3⟩ := (MBP.mem ⟨hmp1, hmp2, hmp3, hmp4⟩ hr y0).mpr y2; exact ⟨i, i1, i2, by rw [i3]; exact y1, by rw [i3]; exact y3⟩
        replace hlp2 := HID.mk hlp2
        refine mw_go mu_g325 (k := 4) (f1 := (204, [(2, .inl (nI lq)), (3, .inl (nI x)), (0, .inr (.inr (some 147))), (1, .inl (nI r))], [.inr (.inr (some 147)), .inl (2 : Int32), .inl (nI r), .inr (.inr (some 147))], Q20)) (C := []) rfl trivial ?_
        have hNK : NK U (upA Va 147 10 (r * 7 + 4) (nI 0)) := fun j hj => by rw [hcel2, if_neg (by omega), if_neg (by omega), if_neg (by omega), if_neg (by omega), if_neg (by omega)]
        have hcI : ∀ x, x = r ∨ (∃ i, i < ls ∧ pl i = x) → ((upA Va 147 10 (r * 7 + 4) (nI 0)).2.2.1 147 10).2 (x * 7 + 1) = nI (if x = r then en + 1 else ix x) := fun x hx => by
          rw [hcel2, if_neg (by omega), if_neg (by omega), if_neg (by omega), if_neg (by omega)]
          by_cases y : x = r
          · rw [if_pos (by omega), if_pos y]
          · rw [if_neg (by omega), if_neg y]
            obtain ⟨i, i1, i2⟩ := hx.resolve_left y
            rw [← i2]
            exact (hix i i1).1
        obtain ⟨r0, bo, hb1, hb2, hb3, hb4, hb5⟩ : ∃ r0 bo, ((upA Va 147 10 (r * 7 + 4) (nI 0)).2.2.1 147 10).2 (0 * 7 + 6) = nI r0 ∧ r0 < R ∧ ((upA Va 147 10 (r * 7 + 4) (nI 0)).2.2.1 147 10).2 (r0 * 7 + 1) = nI bo ∧ bo ≤ en + 1 ∧ ∀ i, i < ls → bo ≤ ix (pl i) := by
          by_cases y : ls = 0
          · refine ⟨r, en + 1, ?_, hr, ?_, Nat.le_refl _, fun i hi => absurd hi (by omega)⟩
            · rw [hcel2, if_neg (by omega), if_pos (by omega)]
            · rw [hcI r (Or.inl rfl), if_pos rfl]
          · refine ⟨pl 0, ix (pl 0), ?_, (hpl 0 (by omega)).2, ?_, ?_, fun i hi => hmono i hi⟩
            · rw [hcel2, if_neg (by omega), if_neg (by omega), if_neg (by omega), if_neg (by omega), if_neg (by omega)]
              exact (hpl 0 (by omega)).1
            · rw [hcI _ (Or.inr ⟨0, by omega, rfl⟩), if_neg (hrn 0 (by omega))]
            · have := (hix 0 (by omega)).2; omega
        have hpl2 : ∀ t, t < T → bts ((upA Va 147 10 (r * 7 + 4) (nI 0)).2.2.2.2.1 151) t = true → ((upA Va 147 10 (r * 7 + 4) (nI 0)).2.2.1 147 10).2 (rx t * 7 + 1) = nI (if rx t = r then en + 1 else ix (rx t)) ∧ bo ≤ (if rx t = r then en + 1 else ix (rx t)) ∧ (if rx t = r then en + 1 else ix (rx t)) ≤ en + 1 := fun t ht y => by
          by_cases z : rx t = r
          · rw [hcI _ (Or.inl z), if_pos z]
            exact ⟨rfl, hb4, Nat.le_refl _⟩
          · obtain ⟨w1, i, w2, w3⟩ := (hpi t ht).mp (((hpi2 t ht).mp y).resolve_right (fun w => z w.2))
            rw [hcI _ (Or.inr ⟨i, w2, w3⟩), if_neg z]
            refine ⟨rfl, ?_, ?_⟩
            · rw [← w3]; exact hb5 i w2
            · have := (hix i w2).2; rw [w3] at this; omega
        refine mw_cI (fun _ => rfl) (show mu_is Q20 (some 147) 2 from (u20.1.1.is rfl)) (gr_lowest (d := d) (T := T) (R := R) (bf := bf) (bt := bt) (en := en + 1) (r0 := r0) (bo := bo) (ix := fun x => if x = r then en + 1 else ix x) u20 d20 (hG.keep hqw rfl hNK) (hz.q hqw rfl rfl rfl) (zza.i 147 22 rfl) (by omega) hb1 hb2 hb3 hb4 hpl2 (by rw [hqw.l 146 rfl]; exact hT146)) (fun x21 H21 q21 => ?_)
        obtain ⟨he21, lo, rfl, hlo1, -, hlo2, hlo3⟩ := q21
        rw [he21]
        rw [hqw.l 146 rfl] at hlo2 hlo3
        replace hlo3 := HID.mk hlo3
        refine mw_cV (fun _ => rfl) (show mu_is Q20 (some 147) 2 from (u20.1.1.is rfl)) (gr_set (d := (d + 2)) (C := C) (r := r) (c := 2) (v := (nI lo)) u20 d20 (by (rw [(show ((upA Va 147 10 (r * 7 + 4) (nI 0)).2.2.1 147 10).1 = (U.2.2.1 147 10).1 from (zza.n 147 10 rfl))]; omega)) (by (rw [(show ((upA Va 147 10 (r * 7 + 4) (nI 0)).2.2.1 147 10).1 = (U.2.2.1 147 10).1 from (zza.n 147 10 rfl))]; omega))) (fun Q22 q22 => ?_)
        obtain ⟨u22, r22, d22⟩ := q22
        have ht22 : ur m C H Q22 := ht20.trans r22
        have qf22 : uq F325 U (upA (upA Va 147 10 (r * 7 + 4) (nI 0)) 147 10 (r * 7 + 2) (nI lo)) := qf20.A rfl
        refine mw_of (fun _ => mu_ret rfl trivial ⟨Q22, rfl, u22, ht22, (by rw [d22]; exact qf22), ?_⟩)
        rw [d22]
        refine ⟨(zza.i 147 22 rfl), (zza.i 147 20 rfl), (zza.i 147 21 rfl), lo, 0, fun j => ?_, ⟨hun2, fun t y => ((hun t).mp y).1⟩, hpi2, by decide, ⟨fun y => absurd y (by decide), fun y => absurd y hmee.out⟩, hlp2.out, hlo1, hlo2, hlo3.out⟩
        show (if j = r * 7 + 2 then nI lo else _) = _
        exact congrArg (fun z => if j = r * 7 + 2 then nI lo else z) (hcel2 j)
      · -- 191: not (nI lq) = 0
        have nh19 : ¬ lq = 0 := fun z => h19 (show nI lq = nI 0 from (nI_eq (by omega) (by omega)).mpr z)
        have hlq2 : lq = 1 := by omega
        refine mw_go mu_g325 (k := 3) (f1 := (197, [(2, .inl (nI lq)), (3, .inl (nI x)), (0, .inr (.inr (some 147))), (1, .inl (nI r))], [.inl ((0 : Int32) ||| (2 : Int32)), .inl (4 : Int32), .inl (nI r), .inr (.inr (some 147))], Hsa)) (C := []) rfl trivial ?_
        rw [show ((0 : Int32) ||| (2 : Int32)) = nI 2 from by decide]
        refine mw_cV (fun _ => rfl) (show mu_is Hsa (some 147) 2 from (ua.1.1.is rfl)) (gr_set (d := (d + 2)) (C := C) (r := r) (c := 4) (v := (nI 2)) ua da (by (rw [(show (Va.2.2.1 147 10).1 = (U.2.2.1 147 10).1 from (zza.n 147 10 rfl))]; omega)) (by (rw [(show (Va.2.2.1 147 10).1 = (U.2.2.1 147 10).1 from (zza.n 147 10 rfl))]; omega))) (fun Q23 q23 => ?_)
        obtain ⟨u23, r23, d23⟩ := q23
        have ht23 : ur m C H Q23 := hta.trans r23
        have qf23 : uq F325 U (upA Va 147 10 (r * 7 + 4) (nI 2)) := qfa.A rfl
        have hcel2 : ∀ j, ((upA Va 147 10 (r * 7 + 4) (nI 2)).2.2.1 147 10).2 j = if j = r * 7 + 4 then nI 2 else (if j = ls * 7 + 6 then nI r else if j = ps * 7 + 5 then nI r else if j = r * 7 + 3 then 0 else if j = r * 7 + 1 then nI (en + 1) else (U.2.2.1 147 10).2 j) := fun j => by
          show (if j = r * 7 + 4 then nI 2 else (Va.2.2.1 147 10).2 j) = _
          rw [zza.a 147 10 rfl, hcell]
        have hqw : uq F325 U (upA Va 147 10 (r * 7 + 4) (nI 2)) := (show uq F325 U (upA Va 147 10 (r * 7 + 4) (nI 2)) from ((((((((((uq.refl F325 U).I rfl).A rfl).A rfl).A rfl).I rfl).A rfl).I rfl).tr zza rfl).A rfl))
        have hun2 : ∀ t, t < T → (bts ((upA Va 147 10 (r * 7 + 4) (nI 2)).2.2.2.2.1 150) t = true ↔ bts (U.2.2.2.2.1 150) t = true ∧ ¬ (bts (U.2.2.2.2.1 153) t = true ∧ rx t = r)) := fun t htT => by
          refine (hun t).trans (and_congr Iff.rfl (not_congr ?_))
          rw [hexit]
          constructor
          · rintro ⟨i, y1, y2, y3, y4⟩; exact ⟨y4, ((MBP.mem ⟨hmp1, hmp2, hmp3, hmp4⟩ hr htT).mp ⟨i, y1, y2, y3⟩)⟩
          · rintro ⟨y4, y5⟩; obtain ⟨i, y1, y2, y3⟩ := (MBP.mem ⟨hmp1, hmp2, hmp3, hmp4⟩ hr htT).mpr y5; exact ⟨i, y1, y2, y3, y4⟩
        have hpi2 : ∀ t, t < T → (bts ((upA Va 147 10 (r * 7 + 4) (nI 2)).2.2.2.2.1 151) t = true ↔ bts (U.2.2.2.2.1 151) t = true ∨ (bts (U.2.2.2.2.1 153) t = true ∧ rx t = r)) := fun t htT => by
          refine (hpv t).trans (or_congr Iff.rfl ?_)
          rw [hexit]
          constructor
          · rintro ⟨i, y1, y2, y3, y4⟩; exact ⟨y4, ((MBP.mem ⟨hmp1, hmp2, hmp3, hmp4⟩ hr htT).mp ⟨i, y1, y2, y3⟩)⟩
          · rintro ⟨y4, y5⟩; obtain ⟨i, y1, y2, y3⟩ := (MBP.mem ⟨hmp1, hmp2, hmp3, hmp4⟩ hr htT).mpr y5; exact ⟨i, y1, y2, y3, y4⟩
        have hlp2 : 2 ≤ 2 ↔ ∃ t, t < T ∧ bts (U.2.2.2.2.1 153) t = true ∧ rx t = r ∧ bts (U.2.2.2.2.1 146) t = true := by
          refine Iff.trans (show 2 ≤ 2 ↔ lq = 1 from ⟨fun _ => by omega, fun _ => by omega⟩) (Iff.trans (show lq = 1 ↔ ∃ i, mb r ≤ i ∧ i < x ∧ bts (U.2.2.2.2.1 153) (me i) = true ∧ bts (U.2.2.2.2.1 146) (me i) = true from hlq) ?_)
          rw [hexit]
          constructor
          · rintro ⟨i, y1, y2, y3, y4⟩; exact ⟨me i, (hme i (by omega)).2, y3, hmp2 r i hr y1 y2, y4⟩
          · rintro ⟨t, y0, y1, y2, y3⟩; obtain ⟨i, i1, i2, i3⟩ := (MBP.mem ⟨hmp1, hmp2, hmp3, hmp4⟩ hr y0).mpr y2; exact ⟨i, i1, i2, by rw [i3]; exact y1, by rw [i3]; exact y3⟩
        replace hlp2 := HID.mk hlp2
        refine mw_go mu_g325 (k := 4) (f1 := (204, [(2, .inl (nI lq)), (3, .inl (nI x)), (0, .inr (.inr (some 147))), (1, .inl (nI r))], [.inr (.inr (some 147)), .inl (2 : Int32), .inl (nI r), .inr (.inr (some 147))], Q23)) (C := []) rfl trivial ?_
        have hNK : NK U (upA Va 147 10 (r * 7 + 4) (nI 2)) := fun j hj => by rw [hcel2, if_neg (by omega), if_neg (by omega), if_neg (by omega), if_neg (by omega), if_neg (by omega)]
        have hcI : ∀ x, x = r ∨ (∃ i, i < ls ∧ pl i = x) → ((upA Va 147 10 (r * 7 + 4) (nI 2)).2.2.1 147 10).2 (x * 7 + 1) = nI (if x = r then en + 1 else ix x) := fun x hx => by
          rw [hcel2, if_neg (by omega), if_neg (by omega), if_neg (by omega), if_neg (by omega)]
          by_cases y : x = r
          · rw [if_pos (by omega), if_pos y]
          · rw [if_neg (by omega), if_neg y]
            obtain ⟨i, i1, i2⟩ := hx.resolve_left y
            rw [← i2]
            exact (hix i i1).1
        obtain ⟨r0, bo, hb1, hb2, hb3, hb4, hb5⟩ : ∃ r0 bo, ((upA Va 147 10 (r * 7 + 4) (nI 2)).2.2.1 147 10).2 (0 * 7 + 6) = nI r0 ∧ r0 < R ∧ ((upA Va 147 10 (r * 7 + 4) (nI 2)).2.2.1 147 10).2 (r0 * 7 + 1) = nI bo ∧ bo ≤ en + 1 ∧ ∀ i, i < ls → bo ≤ ix (pl i) := by
          by_cases y : ls = 0
          · refine ⟨r, en + 1, ?_, hr, ?_, Nat.le_refl _, fun i hi => absurd hi (by omega)⟩
            · rw [hcel2, if_neg (by omega), if_pos (by omega)]
            · rw [hcI r (Or.inl rfl), if_pos rfl]
          · refine ⟨pl 0, ix (pl 0), ?_, (hpl 0 (by omega)).2, ?_, ?_, fun i hi => hmono i hi⟩
            · rw [hcel2, if_neg (by omega), if_neg (by omega), if_neg (by omega), if_neg (by omega), if_neg (by omega)]
              exact (hpl 0 (by omega)).1
            · rw [hcI _ (Or.inr ⟨0, by omega, rfl⟩), if_neg (hrn 0 (by omega))]
            · have := (hix 0 (by omega)).2; omega
        have hpl2 : ∀ t, t < T → bts ((upA Va 147 10 (r * 7 + 4) (nI 2)).2.2.2.2.1 151) t = true → ((upA Va 147 10 (r * 7 + 4) (nI 2)).2.2.1 147 10).2 (rx t * 7 + 1) = nI (if rx t = r then en + 1 else ix (rx t)) ∧ bo ≤ (if rx t = r then en + 1 else ix (rx t)) ∧ (if rx t = r then en + 1 else ix (rx t)) ≤ en + 1 := fun t ht y => by
          by_cases z : rx t = r
          · rw [hcI _ (Or.inl z), if_pos z]
            exact ⟨rfl, hb4, Nat.le_refl _⟩
          · obtain ⟨w1, i, w2, w3⟩ := (hpi t ht).mp (((hpi2 t ht).mp y).resolve_right (fun w => z w.2))
            rw [hcI _ (Or.inr ⟨i, w2, w3⟩), if_neg z]
            refine ⟨rfl, ?_, ?_⟩
            · rw [← w3]; exact hb5 i w2
            · have := (hix i w2).2; rw [w3] at this; omega
        refine mw_cI (fun _ => rfl) (show mu_is Q23 (some 147) 2 from (u23.1.1.is rfl)) (gr_lowest (d := d) (T := T) (R := R) (bf := bf) (bt := bt) (en := en + 1) (r0 := r0) (bo := bo) (ix := fun x => if x = r then en + 1 else ix x) u23 d23 (hG.keep hqw rfl hNK) (hz.q hqw rfl rfl rfl) (zza.i 147 22 rfl) (by omega) hb1 hb2 hb3 hb4 hpl2 (by rw [hqw.l 146 rfl]; exact hT146)) (fun x24 H24 q24 => ?_)
        obtain ⟨he24, lo, rfl, hlo1, -, hlo2, hlo3⟩ := q24
        rw [he24]
        rw [hqw.l 146 rfl] at hlo2 hlo3
        replace hlo3 := HID.mk hlo3
        refine mw_cV (fun _ => rfl) (show mu_is Q23 (some 147) 2 from (u23.1.1.is rfl)) (gr_set (d := (d + 2)) (C := C) (r := r) (c := 2) (v := (nI lo)) u23 d23 (by (rw [(show ((upA Va 147 10 (r * 7 + 4) (nI 2)).2.2.1 147 10).1 = (U.2.2.1 147 10).1 from (zza.n 147 10 rfl))]; omega)) (by (rw [(show ((upA Va 147 10 (r * 7 + 4) (nI 2)).2.2.1 147 10).1 = (U.2.2.1 147 10).1 from (zza.n 147 10 rfl))]; omega))) (fun Q25 q25 => ?_)
        obtain ⟨u25, r25, d25⟩ := q25
        have ht25 : ur m C H Q25 := ht23.trans r25
        have qf25 : uq F325 U (upA (upA Va 147 10 (r * 7 + 4) (nI 2)) 147 10 (r * 7 + 2) (nI lo)) := qf23.A rfl
        refine mw_of (fun _ => mu_ret rfl trivial ⟨Q25, rfl, u25, ht25, (by rw [d25]; exact qf25), ?_⟩)
        rw [d25]
        refine ⟨(zza.i 147 22 rfl), (zza.i 147 20 rfl), (zza.i 147 21 rfl), lo, 2, fun j => ?_, ⟨hun2, fun t y => ((hun t).mp y).1⟩, hpi2, by decide, ⟨fun y => absurd y (by decide), fun y => absurd y hmee.out⟩, hlp2.out, hlo1, hlo2, hlo3.out⟩
        show (if j = r * 7 + 2 then nI lo else _) = _
        exact congrArg (fun z => if j = r * 7 + 2 then nI lo else z) (hcel2 j)
    · -- meets (1 : Int32)
      refine mw_if (P := (1 : Int32) = 0) (a := 186) (b := 182) (fun _ => rfl) trivial (fun h26 => absurd h26 (by decide)) (fun h26 => ?_)
      refine mw_go mu_g325 (k := 3) (f1 := (188, [(2, .inl (nI lq)), (3, .inl (nI x)), (0, .inr (.inr (some 147))), (1, .inl (nI r))], [.inl (nI lq), .inl (1 : Int32), .inl (4 : Int32), .inl (nI r), .inr (.inr (some 147))], Hsa)) (C := []) rfl trivial ?_
      refine mw_if (P := (nI lq) = 0) (a := 195) (b := 191) (fun _ => rfl) trivial (fun h27 => ?_) (fun h27 => ?_)
      · -- 195: (nI lq) = 0
        have nh27 : lq = 0 := (nI_eq (by omega) (by omega)).mp (show nI lq = nI 0 from h27)
        have hlq2 : lq = 0 := by omega
        refine mw_go mu_g325 (k := 2) (f1 := (197, [(2, .inl (nI lq)), (3, .inl (nI x)), (0, .inr (.inr (some 147))), (1, .inl (nI r))], [.inl ((1 : Int32) ||| (0 : Int32)), .inl (4 : Int32), .inl (nI r), .inr (.inr (some 147))], Hsa)) (C := []) rfl trivial ?_
        rw [show ((1 : Int32) ||| (0 : Int32)) = nI 1 from by decide]
        refine mw_cV (fun _ => rfl) (show mu_is Hsa (some 147) 2 from (ua.1.1.is rfl)) (gr_set (d := (d + 2)) (C := C) (r := r) (c := 4) (v := (nI 1)) ua da (by (rw [(show (Va.2.2.1 147 10).1 = (U.2.2.1 147 10).1 from (zza.n 147 10 rfl))]; omega)) (by (rw [(show (Va.2.2.1 147 10).1 = (U.2.2.1 147 10).1 from (zza.n 147 10 rfl))]; omega))) (fun Q28 q28 => ?_)
        obtain ⟨u28, r28, d28⟩ := q28
        have ht28 : ur m C H Q28 := hta.trans r28
        have qf28 : uq F325 U (upA Va 147 10 (r * 7 + 4) (nI 1)) := qfa.A rfl
        have hcel2 : ∀ j, ((upA Va 147 10 (r * 7 + 4) (nI 1)).2.2.1 147 10).2 j = if j = r * 7 + 4 then nI 1 else (if j = ls * 7 + 6 then nI r else if j = ps * 7 + 5 then nI r else if j = r * 7 + 3 then 0 else if j = r * 7 + 1 then nI (en + 1) else (U.2.2.1 147 10).2 j) := fun j => by
          show (if j = r * 7 + 4 then nI 1 else (Va.2.2.1 147 10).2 j) = _
          rw [zza.a 147 10 rfl, hcell]
        have hqw : uq F325 U (upA Va 147 10 (r * 7 + 4) (nI 1)) := (show uq F325 U (upA Va 147 10 (r * 7 + 4) (nI 1)) from ((((((((((uq.refl F325 U).I rfl).A rfl).A rfl).A rfl).I rfl).A rfl).I rfl).tr zza rfl).A rfl))
        have hun2 : ∀ t, t < T → (bts ((upA Va 147 10 (r * 7 + 4) (nI 1)).2.2.2.2.1 150) t = true ↔ bts (U.2.2.2.2.1 150) t = true ∧ ¬ (bts (U.2.2.2.2.1 153) t = true ∧ rx t = r)) := fun t htT => by
          refine (hun t).trans (and_congr Iff.rfl (not_congr ?_))
          rw [hexit]
          constructor
          · rintro ⟨i, y1, y2, y3, y4⟩; exact ⟨y4, ((MBP.mem ⟨hmp1, hmp2, hmp3, hmp4⟩ hr htT).mp ⟨i, y1, y2, y3⟩)⟩
          · rintro ⟨y4, y5⟩; obtain ⟨i, y1, y2, y3⟩ := (MBP.mem ⟨hmp1, hmp2, hmp3, hmp4⟩ hr htT).mpr y5; exact ⟨i, y1, y2, y3, y4⟩
        have hpi2 : ∀ t, t < T → (bts ((upA Va 147 10 (r * 7 + 4) (nI 1)).2.2.2.2.1 151) t = true ↔ bts (U.2.2.2.2.1 151) t = true ∨ (bts (U.2.2.2.2.1 153) t = true ∧ rx t = r)) := fun t htT => by
          refine (hpv t).trans (or_congr Iff.rfl ?_)
          rw [hexit]
          constructor
          · rintro ⟨i, y1, y2, y3, y4⟩; exact ⟨y4, ((MBP.mem ⟨hmp1, hmp2, hmp3, hmp4⟩ hr htT).mp ⟨i, y1, y2, y3⟩)⟩
          · rintro ⟨y4, y5⟩; obtain ⟨i, y1, y2, y3⟩ := (MBP.mem ⟨hmp1, hmp2, hmp3, hmp4⟩ hr htT).mpr y5; exact ⟨i, y1, y2, y3, y4⟩
        have hlp2 : 2 ≤ 1 ↔ ∃ t, t < T ∧ bts (U.2.2.2.2.1 153) t = true ∧ rx t = r ∧ bts (U.2.2.2.2.1 146) t = true := by
          refine Iff.trans (show 2 ≤ 1 ↔ lq = 1 from ⟨fun _ => by omega, fun _ => by omega⟩) (Iff.trans (show lq = 1 ↔ ∃ i, mb r ≤ i ∧ i < x ∧ bts (U.2.2.2.2.1 153) (me i) = true ∧ bts (U.2.2.2.2.1 146) (me i) = true from hlq) ?_)
          rw [hexit]
          constructor
          · rintro ⟨i, y1, y2, y3, y4⟩; exact ⟨me i, (hme i (by omega)).2, y3, hmp2 r i hr y1 y2, y4⟩
          · rintro ⟨t, y0, y1, y2, y3⟩; obtain ⟨i, i1, i2, i3⟩ := (MBP.mem ⟨hmp1, hmp2, hmp3, hmp4⟩ hr y0).mpr y2; exact ⟨i, i1, i2, by rw [i3]; exact y1, by rw [i3]; exact y3⟩
        replace hlp2 := HID.mk hlp2
        refine mw_go mu_g325 (k := 4) (f1 := (204, [(2, .inl (nI lq)), (3, .inl (nI x)), (0, .inr (.inr (some 147))), (1, .inl (nI r))], [.inr (.inr (some 147)), .inl (2 : Int32), .inl (nI r), .inr (.inr (some 147))], Q28)) (C := []) rfl trivial ?_
        have hNK : NK U (upA Va 147 10 (r * 7 + 4) (nI 1)) := fun j hj => by rw [hcel2, if_neg (by omega), if_neg (by omega), if_neg (by omega), if_neg (by omega), if_neg (by omega)]
        have hcI : ∀ x, x = r ∨ (∃ i, i < ls ∧ pl i = x) → ((upA Va 147 10 (r * 7 + 4) (nI 1)).2.2.1 147 10).2 (x * 7 + 1) = nI (if x = r then en + 1 else ix x) := fun x hx => by
          rw [hcel2, if_neg (by omega), if_neg (by omega), if_neg (by omega), if_neg (by omega)]
          by_cases y : x = r
          · rw [if_pos (by omega), if_pos y]
          · rw [if_neg (by omega), if_neg y]
            obtain ⟨i, i1, i2⟩ := hx.resolve_left y
            rw [← i2]
            exact (hix i i1).1
        obtain ⟨r0, bo, hb1, hb2, hb3, hb4, hb5⟩ : ∃ r0 bo, ((upA Va 147 10 (r * 7 + 4) (nI 1)).2.2.1 147 10).2 (0 * 7 + 6) = nI r0 ∧ r0 < R ∧ ((upA Va 147 10 (r * 7 + 4) (nI 1)).2.2.1 147 10).2 (r0 * 7 + 1) = nI bo ∧ bo ≤ en + 1 ∧ ∀ i, i < ls → bo ≤ ix (pl i) := by
          by_cases y : ls = 0
          · refine ⟨r, en + 1, ?_, hr, ?_, Nat.le_refl _, fun i hi => absurd hi (by omega)⟩
            · rw [hcel2, if_neg (by omega), if_pos (by omega)]
            · rw [hcI r (Or.inl rfl), if_pos rfl]
          · refine ⟨pl 0, ix (pl 0), ?_, (hpl 0 (by omega)).2, ?_, ?_, fun i hi => hmono i hi⟩
            · rw [hcel2, if_neg (by omega), if_neg (by omega), if_neg (by omega), if_neg (by omega), if_neg (by omega)]
              exact (hpl 0 (by omega)).1
            · rw [hcI _ (Or.inr ⟨0, by omega, rfl⟩), if_neg (hrn 0 (by omega))]
            · have := (hix 0 (by omega)).2; omega
        have hpl2 : ∀ t, t < T → bts ((upA Va 147 10 (r * 7 + 4) (nI 1)).2.2.2.2.1 151) t = true → ((upA Va 147 10 (r * 7 + 4) (nI 1)).2.2.1 147 10).2 (rx t * 7 + 1) = nI (if rx t = r then en + 1 else ix (rx t)) ∧ bo ≤ (if rx t = r then en + 1 else ix (rx t)) ∧ (if rx t = r then en + 1 else ix (rx t)) ≤ en + 1 := fun t ht y => by
          by_cases z : rx t = r
          · rw [hcI _ (Or.inl z), if_pos z]
            exact ⟨rfl, hb4, Nat.le_refl _⟩
          · obtain ⟨w1, i, w2, w3⟩ := (hpi t ht).mp (((hpi2 t ht).mp y).resolve_right (fun w => z w.2))
            rw [hcI _ (Or.inr ⟨i, w2, w3⟩), if_neg z]
            refine ⟨rfl, ?_, ?_⟩
            · rw [← w3]; exact hb5 i w2
            · have := (hix i w2).2; rw [w3] at this; omega
        refine mw_cI (fun _ => rfl) (show mu_is Q28 (some 147) 2 from (u28.1.1.is rfl)) (gr_lowest (d := d) (T := T) (R := R) (bf := bf) (bt := bt) (en := en + 1) (r0 := r0) (bo := bo) (ix := fun x => if x = r then en + 1 else ix x) u28 d28 (hG.keep hqw rfl hNK) (hz.q hqw rfl rfl rfl) (zza.i 147 22 rfl) (by omega) hb1 hb2 hb3 hb4 hpl2 (by rw [hqw.l 146 rfl]; exact hT146)) (fun x29 H29 q29 => ?_)
        obtain ⟨he29, lo, rfl, hlo1, -, hlo2, hlo3⟩ := q29
        rw [he29]
        rw [hqw.l 146 rfl] at hlo2 hlo3
        replace hlo3 := HID.mk hlo3
        refine mw_cV (fun _ => rfl) (show mu_is Q28 (some 147) 2 from (u28.1.1.is rfl)) (gr_set (d := (d + 2)) (C := C) (r := r) (c := 2) (v := (nI lo)) u28 d28 (by (rw [(show ((upA Va 147 10 (r * 7 + 4) (nI 1)).2.2.1 147 10).1 = (U.2.2.1 147 10).1 from (zza.n 147 10 rfl))]; omega)) (by (rw [(show ((upA Va 147 10 (r * 7 + 4) (nI 1)).2.2.1 147 10).1 = (U.2.2.1 147 10).1 from (zza.n 147 10 rfl))]; omega))) (fun Q30 q30 => ?_)
        obtain ⟨u30, r30, d30⟩ := q30
        have ht30 : ur m C H Q30 := ht28.trans r30
        have qf30 : uq F325 U (upA (upA Va 147 10 (r * 7 + 4) (nI 1)) 147 10 (r * 7 + 2) (nI lo)) := qf28.A rfl
        refine mw_of (fun _ => mu_ret rfl trivial ⟨Q30, rfl, u30, ht30, (by rw [d30]; exact qf30), ?_⟩)
        rw [d30]
        refine ⟨(zza.i 147 22 rfl), (zza.i 147 20 rfl), (zza.i 147 21 rfl), lo, 1, fun j => ?_, ⟨hun2, fun t y => ((hun t).mp y).1⟩, hpi2, by decide, ⟨fun _ => hmee.out, fun _ => rfl⟩, hlp2.out, hlo1, hlo2, hlo3.out⟩
        show (if j = r * 7 + 2 then nI lo else _) = _
        exact congrArg (fun z => if j = r * 7 + 2 then nI lo else z) (hcel2 j)
      · -- 191: not (nI lq) = 0
        have nh27 : ¬ lq = 0 := fun z => h27 (show nI lq = nI 0 from (nI_eq (by omega) (by omega)).mpr z)
        have hlq2 : lq = 1 := by omega
        refine mw_go mu_g325 (k := 3) (f1 := (197, [(2, .inl (nI lq)), (3, .inl (nI x)), (0, .inr (.inr (some 147))), (1, .inl (nI r))], [.inl ((1 : Int32) ||| (2 : Int32)), .inl (4 : Int32), .inl (nI r), .inr (.inr (some 147))], Hsa)) (C := []) rfl trivial ?_
        rw [show ((1 : Int32) ||| (2 : Int32)) = nI 3 from by decide]
        refine mw_cV (fun _ => rfl) (show mu_is Hsa (some 147) 2 from (ua.1.1.is rfl)) (gr_set (d := (d + 2)) (C := C) (r := r) (c := 4) (v := (nI 3)) ua da (by (rw [(show (Va.2.2.1 147 10).1 = (U.2.2.1 147 10).1 from (zza.n 147 10 rfl))]; omega)) (by (rw [(show (Va.2.2.1 147 10).1 = (U.2.2.1 147 10).1 from (zza.n 147 10 rfl))]; omega))) (fun Q31 q31 => ?_)
        obtain ⟨u31, r31, d31⟩ := q31
        have ht31 : ur m C H Q31 := hta.trans r31
        have qf31 : uq F325 U (upA Va 147 10 (r * 7 + 4) (nI 3)) := qfa.A rfl
        have hcel2 : ∀ j, ((upA Va 147 10 (r * 7 + 4) (nI 3)).2.2.1 147 10).2 j = if j = r * 7 + 4 then nI 3 else (if j = ls * 7 + 6 then nI r else if j = ps * 7 + 5 then nI r else if j = r * 7 + 3 then 0 else if j = r * 7 + 1 then nI (en + 1) else (U.2.2.1 147 10).2 j) := fun j => by
          show (if j = r * 7 + 4 then nI 3 else (Va.2.2.1 147 10).2 j) = _
          rw [zza.a 147 10 rfl, hcell]
        have hqw : uq F325 U (upA Va 147 10 (r * 7 + 4) (nI 3)) := (show uq F325 U (upA Va 147 10 (r * 7 + 4) (nI 3)) from ((((((((((uq.refl F325 U).I rfl).A rfl).A rfl).A rfl).I rfl).A rfl).I rfl).tr zza rfl).A rfl))
        have hun2 : ∀ t, t < T → (bts ((upA Va 147 10 (r * 7 + 4) (nI 3)).2.2.2.2.1 150) t = true ↔ bts (U.2.2.2.2.1 150) t = true ∧ ¬ (bts (U.2.2.2.2.1 153) t = true ∧ rx t = r)) := fun t htT => by
          refine (hun t).trans (and_congr Iff.rfl (not_congr ?_))
          rw [hexit]
          constructor
          · rintro ⟨i, y1, y2, y3, y4⟩; exact ⟨y4, ((MBP.mem ⟨hmp1, hmp2, hmp3, hmp4⟩ hr htT).mp ⟨i, y1, y2, y3⟩)⟩
          · rintro ⟨y4, y5⟩; obtain ⟨i, y1, y2, y3⟩ := (MBP.mem ⟨hmp1, hmp2, hmp3, hmp4⟩ hr htT).mpr y5; exact ⟨i, y1, y2, y3, y4⟩
        have hpi2 : ∀ t, t < T → (bts ((upA Va 147 10 (r * 7 + 4) (nI 3)).2.2.2.2.1 151) t = true ↔ bts (U.2.2.2.2.1 151) t = true ∨ (bts (U.2.2.2.2.1 153) t = true ∧ rx t = r)) := fun t htT => by
          refine (hpv t).trans (or_congr Iff.rfl ?_)
          rw [hexit]
          constructor
          · rintro ⟨i, y1, y2, y3, y4⟩; exact ⟨y4, ((MBP.mem ⟨hmp1, hmp2, hmp3, hmp4⟩ hr htT).mp ⟨i, y1, y2, y3⟩)⟩
          · rintro ⟨y4, y5⟩; obtain ⟨i, y1, y2, y3⟩ := (MBP.mem ⟨hmp1, hmp2, hmp3, hmp4⟩ hr htT).mpr y5; exact ⟨i, y1, y2, y3, y4⟩
        have hlp2 : 2 ≤ 3 ↔ ∃ t, t < T ∧ bts (U.2.2.2.2.1 153) t = true ∧ rx t = r ∧ bts (U.2.2.2.2.1 146) t = true := by
          refine Iff.trans (show 2 ≤ 3 ↔ lq = 1 from ⟨fun _ => by omega, fun _ => by omega⟩) (Iff.trans (show lq = 1 ↔ ∃ i, mb r ≤ i ∧ i < x ∧ bts (U.2.2.2.2.1 153) (me i) = true ∧ bts (U.2.2.2.2.1 146) (me i) = true from hlq) ?_)
          rw [hexit]
          constructor
          · rintro ⟨i, y1, y2, y3, y4⟩; exact ⟨me i, (hme i (by omega)).2, y3, hmp2 r i hr y1 y2, y4⟩
          · rintro ⟨t, y0, y1, y2, y3⟩; obtain ⟨i, i1, i2, i3⟩ := (MBP.mem ⟨hmp1, hmp2, hmp3, hmp4⟩ hr y0).mpr y2; exact ⟨i, i1, i2, by rw [i3]; exact y1, by rw [i3]; exact y3⟩
        replace hlp2 := HID.mk hlp2
        refine mw_go mu_g325 (k := 4) (f1 := (204, [(2, .inl (nI lq)), (3, .inl (nI x)), (0, .inr (.inr (some 147))), (1, .inl (nI r))], [.inr (.inr (some 147)), .inl (2 : Int32), .inl (nI r), .inr (.inr (some 147))], Q31)) (C := []) rfl trivial ?_
        have hNK : NK U (upA Va 147 10 (r * 7 + 4) (nI 3)) := fun j hj => by rw [hcel2, if_neg (by omega), if_neg (by omega), if_neg (by omega), if_neg (by omega), if_neg (by omega)]
        have hcI : ∀ x, x = r ∨ (∃ i, i < ls ∧ pl i = x) → ((upA Va 147 10 (r * 7 + 4) (nI 3)).2.2.1 147 10).2 (x * 7 + 1) = nI (if x = r then en + 1 else ix x) := fun x hx => by
          rw [hcel2, if_neg (by omega), if_neg (by omega), if_neg (by omega), if_neg (by omega)]
          by_cases y : x = r
          · rw [if_pos (by omega), if_pos y]
          · rw [if_neg (by omega), if_neg y]
            obtain ⟨i, i1, i2⟩ := hx.resolve_left y
            rw [← i2]
            exact (hix i i1).1
        obtain ⟨r0, bo, hb1, hb2, hb3, hb4, hb5⟩ : ∃ r0 bo, ((upA Va 147 10 (r * 7 + 4) (nI 3)).2.2.1 147 10).2 (0 * 7 + 6) = nI r0 ∧ r0 < R ∧ ((upA Va 147 10 (r * 7 + 4) (nI 3)).2.2.1 147 10).2 (r0 * 7 + 1) = nI bo ∧ bo ≤ en + 1 ∧ ∀ i, i < ls → bo ≤ ix (pl i) := by
          by_cases y : ls = 0
          · refine ⟨r, en + 1, ?_, hr, ?_, Nat.le_refl _, fun i hi => absurd hi (by omega)⟩
            · rw [hcel2, if_neg (by omega), if_pos (by omega)]
            · rw [hcI r (Or.inl rfl), if_pos rfl]
          · refine ⟨pl 0, ix (pl 0), ?_, (hpl 0 (by omega)).2, ?_, ?_, fun i hi => hmono i hi⟩
            · rw [hcel2, if_neg (by omega), if_neg (by omega), if_neg (by omega), if_neg (by omega), if_neg (by omega)]
              exact (hpl 0 (by omega)).1
            · rw [hcI _ (Or.inr ⟨0, by omega, rfl⟩), if_neg (hrn 0 (by omega))]
            · have := (hix 0 (by omega)).2; omega
        have hpl2 : ∀ t, t < T → bts ((upA Va 147 10 (r * 7 + 4) (nI 3)).2.2.2.2.1 151) t = true → ((upA Va 147 10 (r * 7 + 4) (nI 3)).2.2.1 147 10).2 (rx t * 7 + 1) = nI (if rx t = r then en + 1 else ix (rx t)) ∧ bo ≤ (if rx t = r then en + 1 else ix (rx t)) ∧ (if rx t = r then en + 1 else ix (rx t)) ≤ en + 1 := fun t ht y => by
          by_cases z : rx t = r
          · rw [hcI _ (Or.inl z), if_pos z]
            exact ⟨rfl, hb4, Nat.le_refl _⟩
          · obtain ⟨w1, i, w2, w3⟩ := (hpi t ht).mp (((hpi2 t ht).mp y).resolve_right (fun w => z w.2))
            rw [hcI _ (Or.inr ⟨i, w2, w3⟩), if_neg z]
            refine ⟨rfl, ?_, ?_⟩
            · rw [← w3]; exact hb5 i w2
            · have := (hix i w2).2; rw [w3] at this; omega
        refine mw_cI (fun _ => rfl) (show mu_is Q31 (some 147) 2 from (u31.1.1.is rfl)) (gr_lowest (d := d) (T := T) (R := R) (bf := bf) (bt := bt) (en := en + 1) (r0 := r0) (bo := bo) (ix := fun x => if x = r then en + 1 else ix x) u31 d31 (hG.keep hqw rfl hNK) (hz.q hqw rfl rfl rfl) (zza.i 147 22 rfl) (by omega) hb1 hb2 hb3 hb4 hpl2 (by rw [hqw.l 146 rfl]; exact hT146)) (fun x32 H32 q32 => ?_)
        obtain ⟨he32, lo, rfl, hlo1, -, hlo2, hlo3⟩ := q32
        rw [he32]
        rw [hqw.l 146 rfl] at hlo2 hlo3
        replace hlo3 := HID.mk hlo3
        refine mw_cV (fun _ => rfl) (show mu_is Q31 (some 147) 2 from (u31.1.1.is rfl)) (gr_set (d := (d + 2)) (C := C) (r := r) (c := 2) (v := (nI lo)) u31 d31 (by (rw [(show ((upA Va 147 10 (r * 7 + 4) (nI 3)).2.2.1 147 10).1 = (U.2.2.1 147 10).1 from (zza.n 147 10 rfl))]; omega)) (by (rw [(show ((upA Va 147 10 (r * 7 + 4) (nI 3)).2.2.1 147 10).1 = (U.2.2.1 147 10).1 from (zza.n 147 10 rfl))]; omega))) (fun Q33 q33 => ?_)
        obtain ⟨u33, r33, d33⟩ := q33
        have ht33 : ur m C H Q33 := ht31.trans r33
        have qf33 : uq F325 U (upA (upA Va 147 10 (r * 7 + 4) (nI 3)) 147 10 (r * 7 + 2) (nI lo)) := qf31.A rfl
        refine mw_of (fun _ => mu_ret rfl trivial ⟨Q33, rfl, u33, ht33, (by rw [d33]; exact qf33), ?_⟩)
        rw [d33]
        refine ⟨(zza.i 147 22 rfl), (zza.i 147 20 rfl), (zza.i 147 21 rfl), lo, 3, fun j => ?_, ⟨hun2, fun t y => ((hun t).mp y).1⟩, hpi2, by decide, ⟨fun _ => hmee.out, fun _ => rfl⟩, hlp2.out, hlo1, hlo2, hlo3.out⟩
        show (if j = r * 7 + 2 then nI lo else _) = _
        exact congrArg (fun z => if j = r * 7 + 2 then nI lo else z) (hcel2 j)
end Enter
