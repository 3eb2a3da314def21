/-! THE PARSER ONCE MORE: parts, operators, what an E stands in -/
section Switch2
variable {run : Nat → List ev_V → List ev_C → Option ev_R} {M : ev_M}
theorem mw_tsw2 {pc d0 : Nat} {dflt lo hi : Int} {offs : Array Int} {ts : List Nat} {L : mu_L} {S : List mu_V} {x : Int32} {H : mu_H} {Φ : mu_R → Prop} (hf : ev_find M.2.2.2 pc = some (.tableswitch dflt lo hi offs, d0 :: ts)) (hl : hi - lo < ts.length) (hd : x.toInt < lo ∨ hi < x.toInt → mu_W run M (d0, L, S, H) Φ) (h : tw_all x.toInt (fun q => mu_W run M (q, L, S, H) Φ) lo ts) : mu_W run M (pc, L, .inl x :: S, H) Φ :=
  fun L0 hs => mu_sw hf hl (fun z => hd z L0 hs) (fun i q hq hx => tw_all_ok (P := fun q => mu_W run M (q, L, S, H) Φ) ts lo h i q hq hx L0 hs)
end Switch2
theorem lv_pos : ∀ q : Fin 54, 4 ≤ q.1 ∧ q.1 ≤ 27 → ¬ lv q.1 < 1 := by decide +kernel
theorem ps_ex2 {x : Int32} (h1 : ¬ x < 13) (h2 : ¬ 18 < x) : ∃ k, 10 ≤ k ∧ k ≤ 15 ∧ 10 + x - 13 = nI k := by
  have a1 : ¬ x.toInt < 13 := fun z => h1 (Int32.lt_iff_toInt_lt.mpr z)
  have a2 : ¬ 18 < x.toInt := fun z => h2 (Int32.lt_iff_toInt_lt.mpr z)
  have h0 : ¬ x < 0 := fun z => by
    have := Int32.lt_iff_toInt_lt.mp z
    have e : (0 : Int32).toInt = 0 := rfl
    omega
  obtain ⟨j, hj, rfl⟩ := nI_of h0
  rw [nI_toInt hj] at a1 a2
  refine ⟨10 + j - 13, by omega, by omega, ?_⟩
  show nI 10 + nI j - nI 13 = _
  rw [nI_add, pk_sub (by omega)]
theorem lv_get {H : mu_H} {k : Nat} (hot : mu_ot H) (hk : k < 54) : mu_i H 1001079 (nI k).toNatClampNeg = lv k := by rw [lv_val hot, nI_cl hk]
theorem lv_arg {H : mu_H} {k : Nat} (hot : mu_ot H) (hk : (4 ≤ k ∧ k ≤ 8) ∨ (16 ≤ k ∧ k ≤ 26)) : ¬ mu_i H 1001079 (nI k).toNatClampNeg < 1 ∧ ¬ mu_i H 1001079 (nI k).toNatClampNeg + 1 < 1 := by
  rw [lv_get hot (by omega)]
  exact lv_bin ⟨k, by omega⟩ hk
theorem okc_name {o : Nat} {arg : Int32} (ho : o = 2 ∨ o = 3) : okc (nI o) arg := ⟨o, by omega, rfl, fun z => by omega, fun z => by omega⟩
section Acts2
variable {s s' : Ts} {f v m : Nat} {G : mu_H} {a b : Int32}
theorem cy.name (h : cy s f [] false) {o : Nat} (ho : o = 2 ∨ o = 3) (hb : (s 9).1 < 2147483648) (hb0 : (s 0).1 + 1 ≤ 16000000) (hr : nr (tp 0 s (nI o) (nI (s 9).1) 0 0) s') : cy s' f [false] false := by
  obtain ⟨c, e, e9, e10⟩ := hr
  have e9 : (s' 9).1 = (s 9).1 + 1 := e9
  have e10 : (s 10).1 ≤ (s' 10).1 := e10
  have e0 : s' 0 = tput 2 (s 0) (nI o) (nI (s 9).1) 0 0 := (e 0 (by decide) (by decide)).trans tp_at
  obtain ⟨g1, g2⟩ := h.2.1.name h.1.1 ho hb e0 e9 e10 (fun j h0 h9 h10 => (e j h9 h10).trans (tp_ne h0))
  exact ⟨c, g1, by rw [e0]; exact hb0, fun z => absurd z (by decide), fun z => by rw [g2]; exact h.2.2.2.2 z⟩
theorem cy.given (h : cy s f [false] false) (hq : tq s = 42) : cy (tp 5 s (nI f) (nI (s 0).1) 0 0) (s 0).1 [] false := by
  obtain ⟨g1, g2⟩ := h.2.1.given hq
  exact ⟨h.1.given, g1, h.2.2.1, fun z => absurd z (by decide), fun _ => by rw [g2]; decide⟩
theorem CT.vgb (h : CT s) (hl : lastv s v 3) {i : Nat} (h2 : (s 3).2 v 2 = nI i) (ha : i ≤ (s 5).1) (hg : ∀ g, i ≤ g → g < (s 5).1 → rgr s ((s 1).1 - 1) false (s 5) g 0 1) : CT (tx 3 s (nI v) 3 (nI ((s 5).1 - i))) := by
  have e1 : (tx 3 s (nI v) 3 (nI ((s 5).1 - i)) 3).2 v 1 = nI 3 := (txv_ne (by decide)).trans hl.2.2.2.1
  have e2 : (tx 3 s (nI v) 3 (nI ((s 5).1 - i)) 3).2 v 2 = nI i := (txv_ne (by decide)).trans h2
  have e3 : (tx 3 s (nI v) 3 (nI ((s 5).1 - i)) 3).2 v 3 = nI ((s 5).1 - i) := txv_hit hl (by decide)
  have x : ex s (tx 3 s (nI v) 3 (nI ((s 5).1 - i))) := ex_tx (by decide) (by decide) (by decide)
  refine h.vset hl.1 hl.2.1 hl.2.2.1 ⟨3, by decide, e1, fun z => by omega, fun _ => ⟨i, (s 5).1 - i, e2, e3, by show i + ((s 5).1 - i) ≤ (s 5).1; omega, fun g hg1 hg2 => ?_⟩⟩ (Cl_tx hl ?_)
  · obtain ⟨p, q, f1, f2, f3⟩ := hg g hg1 (by omega)
    exact ⟨p, q, f1, f2, x.rgk (by have := hl.2.2.2.2; omega) f3⟩
  · rw [e1, if_neg (nI_ne2 (by decide) (by decide))]
    exact h.ls hl
theorem gv_end (hp : ps m G) (e : ab m G = tp 5 s (nI f) (nI (s 0).1) 0 0) (h : cy s f [false] false) (hq : tq s = 42) : CT (tx 3 (tp 5 s (nI f) (nI (s 0).1) 0 0) (tn (tp 5 s (nI f) (nI (s 0).1) 0 0)) 3 (mu_i G (m + 11) 2 - rw_get G (m + 7) 6 (gi_sz G (m + 7)) (tn (tp 5 s (nI f) (nI (s 0).1) 0 0)) 2)) ∧ (s 11).1 = 1 ∧ 1 ≤ (s 1).1 := by
  obtain ⟨g1, g2⟩ := h.2.1.given hq
  have hn : (s 11).1 = 1 := (h.2.1.closed (by omega) (by omega)).1
  have h1 : 1 ≤ (s 1).1 := h.2.1.1.1
  have z : so (s 11) 0 = 42 := by
    have := hq
    unfold tq at this
    rw [hn] at this
    exact this
  obtain ⟨v, i, w1, w2, w3, w4, w5, w6, w7, w8, w9⟩ := g1.2.2.2.2 z
  have t1 : tn (tp 5 s (nI f) (nI (s 0).1) 0 0) = nI v := by
    show (s 11).2 ((s 11).1 - 1) 1 = nI v
    rw [hn]
    exact w1
  have hl : lastv (tp 5 s (nI f) (nI (s 0).1) 0 0) v 3 := ⟨w3, w2, w4, w5, h1⟩
  have e1 : mu_i G (m + 11) 2 = nI (tp 5 s (nI f) (nI (s 0).1) 0 0 5).1 := sz_n hp e (j := 5) (by decide)
  have e2 : rw_get G (m + 7) 6 (gi_sz G (m + 7)) (nI v) 2 = (tp 5 s (nI f) (nI (s 0).1) 0 0 3).2 v 2 := by
    rw [← e]
    exact rw_get_tb (H := G) (r := m + 7) (W := 6) w2 rfl
  refine ⟨?_, hn, h1⟩
  rw [t1, e1, e2, w6, pk_sub w8]
  exact h.1.given.vgb hl w6 w8 w9
theorem cy.lst (h : cy s f [false] false) {w : Int32} (hq : (tq s = 47 ∧ w = 30) ∨ (tq s = 50 ∧ w = 33)) (hw : w = 33) (hb : (s 0).1 + 1 ≤ 16000000) : cy (td (tp 0 s w (tn s + 1) 0 0)) f [true] true := by
  rcases hq with ⟨_, e⟩ | ⟨e, e2⟩
  · rw [e] at hw; exact absurd hw (by decide)
  · rw [e2]; exact h.send e hb
theorem cy.lst0 (h : cy s f [false] false) {w : Int32} (hq : (tq s = 47 ∧ w = 30) ∨ (tq s = 50 ∧ w = 33)) (hw : ¬ w = 33) (hb : (s 0).1 + 1 ≤ 16000000) : cy (td (tp 0 s w (tn s + 1) 0 0)) f [false] false := by
  rcases hq with ⟨e, e2⟩ | ⟨_, e⟩
  · rw [e2]; exact h.lend e hb
  · exact absurd e hw
theorem cy.eline (h : cy s f [true] true) (hq : tq s = 43) : CT (td (tp 7 s a b (nI f) (nI (s 0).1))) ∧ (s 11).1 = 1 ∧ 1 ≤ (s 1).1 := by
  obtain ⟨hn, hr⟩ := h.2.1.closed (by omega) (by omega)
  exact ⟨(h.1.line h.2.1.1.1 hr).stack, hn, h.2.1.1.1⟩
theorem cy.eclaim (h : cy s f [false] false) (hq : tq s = 40) : CT (td (tp 8 s a (nI f) (nI (s 0).1) b)) ∧ (s 11).1 = 1 ∧ 1 ≤ (s 1).1 := by
  obtain ⟨hn, hr⟩ := h.2.1.closed (by omega) (by omega)
  exact ⟨(h.1.claim h.2.1.1.1 hr).stack, hn, h.2.1.1.1⟩
theorem cy.edef (h : cy s f [false] false) (hq : tq s = 41) : CT (td (tp 6 s a (nI f) (nI (s 0).1) b)) ∧ (s 11).1 = 1 ∧ 1 ≤ (s 1).1 := by
  obtain ⟨hn, hr⟩ := h.2.1.closed (by omega) (by omega)
  exact ⟨(h.1.defn h.2.1.1.1 hr).stack, hn, h.2.1.1.1⟩
theorem cy.eone {kd ch : Bool} {q : Nat} (h : cy s f [kd] ch) (hq : tq s = q) (h40 : 40 ≤ q) (h43 : q ≤ 43) : (s 11).1 = 1 ∧ 1 ≤ (s 1).1 := ⟨(h.2.1.closed (by omega) (by omega)).1, h.2.1.1.1⟩
theorem tq53 {x : List Bool} (h : cy s f x true) (hp : ps m G) (e : ab m G = s) (hne : ¬ ps_top G = 43) : tq s = 53 := by
  rcases h.2.2.2.1 rfl with z | z
  · refine absurd ?_ hne
    rw [top_tt hp e, h.2.1.top.1, z]
    rfl
  · exact z
theorem no_top {x : List Bool} (h : cy s f x false) (hl : lv (tq s) < 1) (hp : ps m G) (e : ab m G = s) (hx : (ps_top G).toInt < 40 ∨ 52 < (ps_top G).toInt) : False := by
  have h2 := h.2.2.2.2 rfl
  have h3 := h.2.1.top
  rw [top_tt hp e, h3.1, nI_toInt (by have := h3.2.1; omega)] at hx
  have h4 : tq s < 40 := by have := h3.2.1; omega
  obtain ⟨-, h5⟩ := h3.2.2.2.2 (Or.inl h4)
  exact lv_pos ⟨tq s, h3.2.1⟩ (by unfold sok at h5; show 4 ≤ tq s ∧ tq s ≤ 27; omega) hl
end Acts2
section ParserParts2
variable {H : mu_H} {m B d : Nat}
theorem pb_leaf (h : ps m H) (hBB : B ≤ 1000000) (hB : ps_pot m H ≤ B + 90) {f : Nat} (hfr : mu_i H 80 9 = nI f) (hy : cy (ab m H) f [] false) : mu_TI (mu_D (d + 7)) 149 [.inr (.inr (some 80))] H (fun x H1 => (x = 0 ∧ ps m H1 ∧ pt m B H H1 ∧ ps_pot m H1 ≤ ps_pot m H + 50) ∨ (x = 1 ∧ ps m H1 ∧ pt m B H H1 ∧ ps_pot m H1 + 0 ≤ ps_pot m H ∧ PC m H1)) := by
  refine mu_meth (M := mu_m149) rfl rfl ?_
  refine mw_ht (mu_fn_of (show [0].Nodup by decide)) ?_
  refine mw_go mu_g149 (k := 3) (f1 := (6, [(0, .inr (.inr (some 80)))], [.inl (26 : Int32), .inl (mu_i H 80 4)], H)) (C := [mu_is H (some 80) 7]) rfl (show mu_is H (some 80) 7 from h.1.is rfl) ?_
  refine mw_if (P := (mu_i H 80 4) = (26 : Int32)) (a := 18) (b := 9) (fun _ => rfl) trivial (fun h1 => ?_) (fun h1 => ?_)
  · -- 18: (mu_i H 80 4) = (26 : Int32)
    refine mw_go mu_g149 (k := 5) (f1 := (26, [(0, .inr (.inr (some 80)))], [.inl (26 : Int32), .inl (mu_i H 80 4), .inl (0 : Int32), .inr (.inr (some 80))], H)) (C := [mu_is H (some 80) 7]) rfl (show mu_is H (some 80) 7 from h.1.is rfl) ?_
    refine mw_if (P := (mu_i H 80 4) = (26 : Int32)) (a := 29) (b := 33) (fun _ => rfl) trivial (fun _ => ?_) (fun h2 => absurd h1 h2)
    refine mw_go mu_g149 (k := 2) (f1 := (34, [(0, .inr (.inr (some 80)))], [.inl (1 : Int32), .inl (0 : Int32), .inr (.inr (some 80))], H)) (C := []) rfl trivial ?_
    refine mw_cV (fun _ => rfl) (show mu_is H (some 80) 7 from h.1.is rfl) (pb_emit (d := (d + 2)) (B := B) h hBB (by omega) (0 : Int32) (1 : Int32)) (fun H3 q3 => ?_)
    obtain ⟨hp3, qt3, qi3, qs3, qb3, qa3⟩ := q3
    have ht3 := (pt.refl m B H).trans qt3
    have ha3 : ab m H3 = (tp 0 (ab m H) (0 : Int32) (1 : Int32) 0 0) := qa3
    refine mw_go mu_g149 (k := 1) (f1 := (38, [(0, .inr (.inr (some 80)))], [.inr (.inr (some 80))], H3)) (C := []) rfl trivial ?_
    refine mw_cV (fun _ => rfl) (show mu_is H3 (some 80) 7 from hp3.1.is rfl) (pb_adv (d := (d + 4)) (B := B) hp3) (fun H4 q4 => ?_)
    obtain ⟨⟨hp4, qt4, qk4, qb4, qc4⟩, qa4⟩ := q4
    have ht4 := ht3.trans qt4
    have qs4 : gi_sz H4 89 = gi_sz H3 89 := qk4.2
    have ha4 : ab m H4 = (tp 0 (ab m H) (0 : Int32) (1 : Int32) 0 0) := qa4.trans (by rw [ha3])
    have qd4 := qc4 (show mu_i H3 80 4 < 114 from (by rw [(qi3 4)]; exact (show (mu_i H 80 4) < 114 from (by rw [h1]; decide))))
    refine mw_go mu_g149 (k := 2) (f1 := (156, [(0, .inr (.inr (some 80)))], [.inr (.inr (some 80))], H4)) (C := []) rfl trivial ?_
    refine mw_cV (fun _ => rfl) (show mu_is H4 (some 80) 7 from hp4.1.is rfl) (pb_fact (d := d) (B := B) (f := f) hp4 hBB (by omega) (by rw [ha4]; exact (hy.leaf (o := 0) (by decide) (fun _ => Or.inr rfl) (pot_0 (m := m) (H := H) (by omega))))) (fun H5 q5 => ?_)
    obtain ⟨hp5, qt5, qi5, qb5, qm5, hy5⟩ := q5
    have ht5 := ht4.trans qt5
    have hc5 : ps_mp (mu_i H4 80 6) = ps_mp (mu_i H 80 6) := congrArg ps_mp (show mu_i H4 80 6 = (mu_i H 80 6) from ((qk4.1 6 (by decide)).trans (qi3 6)))
    refine mw_go mu_g149 (k := 1) (f1 := (160, [(0, .inr (.inr (some 80)))], [.inl (1 : Int32)], H5)) (C := []) rfl trivial ?_
    exact mw_of (fun _ => mu_ret rfl (Or.inr rfl) ⟨_, H5, rfl, Or.inr ⟨rfl, hp5, ht5, by omega, (PC_c (show mu_i H5 80 6 = 8 from qm5) (show mu_i H5 80 9 = nI f from (((qi5 9 (by decide)).trans ((qk4.1 9 (by decide)).trans (qi3 9))).trans hfr)) rfl hy5 (Or.inr (Or.inr (Or.inl ⟨rfl, rfl, rfl⟩))))⟩⟩)
  · -- 9: not (mu_i H 80 4) = (26 : Int32)
    refine mw_go mu_g149 (k := 3) (f1 := (15, [(0, .inr (.inr (some 80)))], [.inl (27 : Int32), .inl (mu_i H 80 4)], H)) (C := [mu_is H (some 80) 7]) rfl (show mu_is H (some 80) 7 from h.1.is rfl) ?_
    refine mw_if (P := (mu_i H 80 4) = (27 : Int32)) (a := 18) (b := 44) (fun _ => rfl) trivial (fun h6 => ?_) (fun h6 => ?_)
    · -- 18: (mu_i H 80 4) = (27 : Int32)
      refine mw_go mu_g149 (k := 5) (f1 := (26, [(0, .inr (.inr (some 80)))], [.inl (26 : Int32), .inl (mu_i H 80 4), .inl (0 : Int32), .inr (.inr (some 80))], H)) (C := [mu_is H (some 80) 7]) rfl (show mu_is H (some 80) 7 from h.1.is rfl) ?_
      refine mw_if (P := (mu_i H 80 4) = (26 : Int32)) (a := 29) (b := 33) (fun _ => rfl) trivial (fun h7 => absurd h7 h1) (fun _ => ?_)
      refine mw_go mu_g149 (k := 1) (f1 := (34, [(0, .inr (.inr (some 80)))], [.inl (0 : Int32), .inl (0 : Int32), .inr (.inr (some 80))], H)) (C := []) rfl trivial ?_
      refine mw_cV (fun _ => rfl) (show mu_is H (some 80) 7 from h.1.is rfl) (pb_emit (d := (d + 2)) (B := B) h hBB (by omega) (0 : Int32) (0 : Int32)) (fun H8 q8 => ?_)
      obtain ⟨hp8, qt8, qi8, qs8, qb8, qa8⟩ := q8
      have ht8 := (pt.refl m B H).trans qt8
      have ha8 : ab m H8 = (tp 0 (ab m H) (0 : Int32) (0 : Int32) 0 0) := qa8
      refine mw_go mu_g149 (k := 1) (f1 := (38, [(0, .inr (.inr (some 80)))], [.inr (.inr (some 80))], H8)) (C := []) rfl trivial ?_
      refine mw_cV (fun _ => rfl) (show mu_is H8 (some 80) 7 from hp8.1.is rfl) (pb_adv (d := (d + 4)) (B := B) hp8) (fun H9 q9 => ?_)
      obtain ⟨⟨hp9, qt9, qk9, qb9, qc9⟩, qa9⟩ := q9
      have ht9 := ht8.trans qt9
      have qs9 : gi_sz H9 89 = gi_sz H8 89 := qk9.2
      have ha9 : ab m H9 = (tp 0 (ab m H) (0 : Int32) (0 : Int32) 0 0) := qa9.trans (by rw [ha8])
      have qd9 := qc9 (show mu_i H8 80 4 < 114 from (by rw [(qi8 4)]; exact (show (mu_i H 80 4) < 114 from (by rw [h6]; decide))))
      refine mw_go mu_g149 (k := 2) (f1 := (156, [(0, .inr (.inr (some 80)))], [.inr (.inr (some 80))], H9)) (C := []) rfl trivial ?_
      refine mw_cV (fun _ => rfl) (show mu_is H9 (some 80) 7 from hp9.1.is rfl) (pb_fact (d := d) (B := B) (f := f) hp9 hBB (by omega) (by rw [ha9]; exact (hy.leaf (o := 0) (by decide) (fun _ => Or.inl rfl) (pot_0 (m := m) (H := H) (by omega))))) (fun H10 q10 => ?_)
      obtain ⟨hp10, qt10, qi10, qb10, qm10, hy10⟩ := q10
      have ht10 := ht9.trans qt10
      have hc10 : ps_mp (mu_i H9 80 6) = ps_mp (mu_i H 80 6) := congrArg ps_mp (show mu_i H9 80 6 = (mu_i H 80 6) from ((qk9.1 6 (by decide)).trans (qi8 6)))
      refine mw_go mu_g149 (k := 1) (f1 := (160, [(0, .inr (.inr (some 80)))], [.inl (1 : Int32)], H10)) (C := []) rfl trivial ?_
      exact mw_of (fun _ => mu_ret rfl (Or.inr rfl) ⟨_, H10, rfl, Or.inr ⟨rfl, hp10, ht10, by omega, (PC_c (show mu_i H10 80 6 = 8 from qm10) (show mu_i H10 80 9 = nI f from (((qi10 9 (by decide)).trans ((qk9.1 9 (by decide)).trans (qi8 9))).trans hfr)) rfl hy10 (Or.inr (Or.inr (Or.inl ⟨rfl, rfl, rfl⟩))))⟩⟩)
    · -- 44: not (mu_i H 80 4) = (27 : Int32)
      refine mw_go mu_g149 (k := 3) (f1 := (50, [(0, .inr (.inr (some 80)))], [.inl (113 : Int32), .inl (mu_i H 80 4)], H)) (C := [mu_is H (some 80) 7]) rfl (show mu_is H (some 80) 7 from h.1.is rfl) ?_
      refine mw_if (P := (mu_i H 80 4) = (113 : Int32)) (a := 53) (b := 69) (fun _ => rfl) trivial (fun h11 => ?_) (fun h11 => ?_)
      · -- 53: (mu_i H 80 4) = (113 : Int32)
        refine mw_go mu_g149 (k := 4) (f1 := (59, [(0, .inr (.inr (some 80)))], [.inl (mu_i H 80 5), .inl (1 : Int32), .inr (.inr (some 80))], H)) (C := [mu_is H (some 80) 7]) rfl (show mu_is H (some 80) 7 from h.1.is rfl) ?_
        refine mw_cV (fun _ => rfl) (show mu_is H (some 80) 7 from h.1.is rfl) (pb_emit (d := (d + 2)) (B := B) h hBB (by omega) (1 : Int32) (mu_i H 80 5)) (fun H12 q12 => ?_)
        obtain ⟨hp12, qt12, qi12, qs12, qb12, qa12⟩ := q12
        have ht12 := (pt.refl m B H).trans qt12
        have ha12 : ab m H12 = (tp 0 (ab m H) (1 : Int32) (mu_i H 80 5) 0 0) := qa12
        refine mw_go mu_g149 (k := 1) (f1 := (63, [(0, .inr (.inr (some 80)))], [.inr (.inr (some 80))], H12)) (C := []) rfl trivial ?_
        refine mw_cV (fun _ => rfl) (show mu_is H12 (some 80) 7 from hp12.1.is rfl) (pb_adv (d := (d + 4)) (B := B) hp12) (fun H13 q13 => ?_)
        obtain ⟨⟨hp13, qt13, qk13, qb13, qc13⟩, qa13⟩ := q13
        have ht13 := ht12.trans qt13
        have qs13 : gi_sz H13 89 = gi_sz H12 89 := qk13.2
        have ha13 : ab m H13 = (tp 0 (ab m H) (1 : Int32) (mu_i H 80 5) 0 0) := qa13.trans (by rw [ha12])
        have qd13 := qc13 (show mu_i H12 80 4 < 114 from (by rw [(qi12 4)]; exact (show (mu_i H 80 4) < 114 from (by rw [h11]; decide))))
        refine mw_go mu_g149 (k := 2) (f1 := (156, [(0, .inr (.inr (some 80)))], [.inr (.inr (some 80))], H13)) (C := []) rfl trivial ?_
        refine mw_cV (fun _ => rfl) (show mu_is H13 (some 80) 7 from hp13.1.is rfl) (pb_fact (d := d) (B := B) (f := f) hp13 hBB (by omega) (by rw [ha13]; exact (hy.leaf (o := 1) (by decide) (fun z => absurd z (by decide)) (pot_0 (m := m) (H := H) (by omega))))) (fun H14 q14 => ?_)
        obtain ⟨hp14, qt14, qi14, qb14, qm14, hy14⟩ := q14
        have ht14 := ht13.trans qt14
        have hc14 : ps_mp (mu_i H13 80 6) = ps_mp (mu_i H 80 6) := congrArg ps_mp (show mu_i H13 80 6 = (mu_i H 80 6) from ((qk13.1 6 (by decide)).trans (qi12 6)))
        refine mw_go mu_g149 (k := 1) (f1 := (160, [(0, .inr (.inr (some 80)))], [.inl (1 : Int32)], H14)) (C := []) rfl trivial ?_
        exact mw_of (fun _ => mu_ret rfl (Or.inr rfl) ⟨_, H14, rfl, Or.inr ⟨rfl, hp14, ht14, by omega, (PC_c (show mu_i H14 80 6 = 8 from qm14) (show mu_i H14 80 9 = nI f from (((qi14 9 (by decide)).trans ((qk13.1 9 (by decide)).trans (qi12 9))).trans hfr)) rfl hy14 (Or.inr (Or.inr (Or.inl ⟨rfl, rfl, rfl⟩))))⟩⟩)
      · -- 69: not (mu_i H 80 4) = (113 : Int32)
        refine mw_go mu_g149 (k := 3) (f1 := (75, [(0, .inr (.inr (some 80)))], [.inl (112 : Int32), .inl (mu_i H 80 4)], H)) (C := [mu_is H (some 80) 7]) rfl (show mu_is H (some 80) 7 from h.1.is rfl) ?_
        refine mw_if (P := (mu_i H 80 4) = (112 : Int32)) (a := 78) (b := 102) (fun _ => rfl) trivial (fun h15 => ?_) (fun h15 => ?_)
        · -- 78: (mu_i H 80 4) = (112 : Int32)
          refine mw_go mu_g149 (k := 4) (f1 := (84, [(0, .inr (.inr (some 80)))], [.inr (.inr (mu_r H 80 2)), .inl (2 : Int32), .inr (.inr (some 80))], H)) (C := [mu_is H (some 80) 7]) rfl (show mu_is H (some 80) 7 from h.1.is rfl) ?_
          rw [h.m80]
          refine mw_go mu_g149 (k := 1) (f1 := (87, [(0, .inr (.inr (some 80)))], [.inr (.inr (mu_r H m 9)), .inl (2 : Int32), .inr (.inr (some 80))], H)) (C := [mu_is H (some m) 6]) rfl (show mu_is H (some m) 6 from h.im) ?_
          rw [h.r9]
          refine mw_go mu_g149 (k := 1) (f1 := (90, [(0, .inr (.inr (some 80)))], [.inl (mu_i H (m + 19) 2), .inl (2 : Int32), .inr (.inr (some 80))], H)) (C := [mu_is H (some (m + 19)) 10]) rfl (show mu_is H (some (m + 19)) 10 from h.i9) ?_
          refine mw_cV (fun _ => rfl) (show mu_is H (some 80) 7 from h.1.is rfl) (pb_emit (d := (d + 2)) (B := B) h hBB (by omega) (2 : Int32) (mu_i H (m + 19) 2)) (fun H16 q16 => ?_)
          obtain ⟨hp16, qt16, qi16, qs16, qb16, qa16⟩ := q16
          have ht16 := (pt.refl m B H).trans qt16
          have ha16 : ab m H16 = (tp 0 (ab m H) (2 : Int32) (nI ((ab m H) 9).1) 0 0) := qa16.trans (by rw [(show mu_i H (m + 19) 2 = nI ((ab m H) 9).1 from sz_n h rfl (j := 9) (by decide))])
          refine mw_go mu_g149 (k := 1) (f1 := (94, [(0, .inr (.inr (some 80)))], [.inr (.inr (some 80))], H16)) (C := []) rfl trivial ?_
          refine mw_cI (fun _ => rfl) (show mu_is H16 (some 80) 7 from hp16.1.is rfl) (pb_names (d := (d + 2)) (B := B) hp16 hBB (by omega) (by rw [ha16]; exact (hy.1.emit (okc_name (o := 2) (by decide))))) (fun x17 H17 q17 => ?_)
          rcases q17 with ⟨rfl, hp17, qt17, qb17⟩ | ⟨rfl, hp17, qt17, qb17, qc17, qi17⟩
          · -- (0 : Int32)
            have ht17 := ht16.trans qt17
            have hc17 : ps_mp (mu_i H16 80 6) = ps_mp (mu_i H 80 6) := congrArg ps_mp (show mu_i H16 80 6 = (mu_i H 80 6) from (qi16 6))
            refine mw_if (P := (0 : Int32) = 0) (a := 100) (b := 155) (fun _ => rfl) trivial (fun h18 => ?_) (fun h18 => absurd (by decide) h18)
            refine mw_go mu_g149 (k := 1) (f1 := (101, [(0, .inr (.inr (some 80)))], [.inl (0 : Int32)], H17)) (C := []) rfl trivial ?_
            exact mw_of (fun _ => mu_ret rfl (Or.inl rfl) ⟨_, H17, rfl, Or.inl ⟨rfl, hp17, ht17, by omega⟩⟩)
          · -- (1 : Int32)
            have ht17 := ht16.trans qt17
            have hc17 : ps_mp (mu_i H16 80 6) = ps_mp (mu_i H 80 6) := congrArg ps_mp (show mu_i H16 80 6 = (mu_i H 80 6) from (qi16 6))
            have hy17 : cy (ab m H17) f [false] false := hy.name (o := 2) (by decide) (ab_lt h rfl (by decide)) (pot_0 (m := m) (H := H) (by omega)) (by have z := qc17; rw [ha16] at z; exact z)
            refine mw_if (P := (1 : Int32) = 0) (a := 100) (b := 155) (fun _ => rfl) trivial (fun h19 => absurd h19 (by decide)) (fun h19 => ?_)
            refine mw_go mu_g149 (k := 1) (f1 := (156, [(0, .inr (.inr (some 80)))], [.inr (.inr (some 80))], H17)) (C := []) rfl trivial ?_
            refine mw_cV (fun _ => rfl) (show mu_is H17 (some 80) 7 from hp17.1.is rfl) (pb_fact (d := d) (B := B) (f := f) hp17 hBB (by omega) hy17) (fun H20 q20 => ?_)
            obtain ⟨hp20, qt20, qi20, qb20, qm20, hy20⟩ := q20
            have ht20 := ht17.trans qt20
            have hc20 : ps_mp (mu_i H17 80 6) = ps_mp (mu_i H 80 6) := congrArg ps_mp (show mu_i H17 80 6 = (mu_i H 80 6) from ((qi17 6 (by decide)).trans (qi16 6)))
            refine mw_go mu_g149 (k := 1) (f1 := (160, [(0, .inr (.inr (some 80)))], [.inl (1 : Int32)], H20)) (C := []) rfl trivial ?_
            exact mw_of (fun _ => mu_ret rfl (Or.inr rfl) ⟨_, H20, rfl, Or.inr ⟨rfl, hp20, ht20, by omega, (PC_c (show mu_i H20 80 6 = 8 from qm20) (show mu_i H20 80 9 = nI f from (((qi20 9 (by decide)).trans ((qi17 9 (by decide)).trans (qi16 9))).trans hfr)) rfl hy20 (Or.inr (Or.inr (Or.inl ⟨rfl, rfl, rfl⟩))))⟩⟩)
        · -- 102: not (mu_i H 80 4) = (112 : Int32)
          refine mw_go mu_g149 (k := 2) (f1 := (105, [(0, .inr (.inr (some 80)))], [.inl (10 : Int32), .inr (.inr (some 80))], H)) (C := []) rfl trivial ?_
          refine mw_cI (fun _ => rfl) (show mu_is H (some 80) 7 from h.1.is rfl) (pb_take (d := (d + 3)) (B := B) h (10 : Int32) (by decide)) (fun x21 H21 q21 => ?_)
          rcases q21 with ⟨rfl, rfl, qe21⟩ | ⟨rfl, hp21, qt21, qk21, qb21, qe21, qa21⟩
          · -- (0 : Int32)
            refine mw_if (P := (0 : Int32) = 0) (a := 120) (b := 111) (fun _ => rfl) trivial (fun h22 => ?_) (fun h22 => absurd (by decide) h22)
            refine mw_go mu_g149 (k := 1) (f1 := (121, [(0, .inr (.inr (some 80)))], [.inl (0 : Int32)], H)) (C := []) rfl trivial ?_
            exact mw_of (fun _ => mu_ret rfl (Or.inl rfl) ⟨_, H, rfl, Or.inl ⟨rfl, h, (pt.refl m B H), by omega⟩⟩)
          · -- (1 : Int32)
            have ht21 := (pt.refl m B H).trans qt21
            have qs21 : gi_sz H21 89 = gi_sz H 89 := qk21.2
            have ha21 : ab m H21 = (ab m H) := qa21
            refine mw_if (P := (1 : Int32) = 0) (a := 120) (b := 111) (fun _ => rfl) trivial (fun h23 => absurd h23 (by decide)) (fun h23 => ?_)
            refine mw_go mu_g149 (k := 2) (f1 := (114, [(0, .inr (.inr (some 80)))], [.inl (64 : Int32), .inr (.inr (some 80))], H21)) (C := []) rfl trivial ?_
            refine mw_cI (fun _ => rfl) (show mu_is H21 (some 80) 7 from hp21.1.is rfl) (pb_take (d := (d + 3)) (B := B) hp21 (64 : Int32) (by decide)) (fun x24 H24 q24 => ?_)
            rcases q24 with ⟨rfl, rfl, qe24⟩ | ⟨rfl, hp24, qt24, qk24, qb24, qe24, qa24⟩
            · -- (0 : Int32)
              refine mw_if (P := (0 : Int32) = 0) (a := 120) (b := 122) (fun _ => rfl) trivial (fun h25 => ?_) (fun h25 => absurd (by decide) h25)
              refine mw_go mu_g149 (k := 1) (f1 := (121, [(0, .inr (.inr (some 80)))], [.inl (0 : Int32)], H21)) (C := []) rfl trivial ?_
              exact mw_of (fun _ => mu_ret rfl (Or.inl rfl) ⟨_, H21, rfl, Or.inl ⟨rfl, hp21, ht21, by omega⟩⟩)
            · -- (1 : Int32)
              have ht24 := ht21.trans qt24
              have qs24 : gi_sz H24 89 = gi_sz H21 89 := qk24.2
              have ha24 : ab m H24 = (ab m H) := qa24.trans (by rw [ha21])
              refine mw_if (P := (1 : Int32) = 0) (a := 120) (b := 122) (fun _ => rfl) trivial (fun h26 => absurd h26 (by decide)) (fun h26 => ?_)
              refine mw_go mu_g149 (k := 4) (f1 := (128, [(0, .inr (.inr (some 80)))], [.inr (.inr (mu_r H24 80 2)), .inl (3 : Int32), .inr (.inr (some 80))], H24)) (C := [mu_is H24 (some 80) 7]) rfl (show mu_is H24 (some 80) 7 from hp24.1.is rfl) ?_
              rw [hp24.m80]
              refine mw_go mu_g149 (k := 1) (f1 := (131, [(0, .inr (.inr (some 80)))], [.inr (.inr (mu_r H24 m 9)), .inl (3 : Int32), .inr (.inr (some 80))], H24)) (C := [mu_is H24 (some m) 6]) rfl (show mu_is H24 (some m) 6 from hp24.im) ?_
              rw [hp24.r9]
              refine mw_go mu_g149 (k := 1) (f1 := (134, [(0, .inr (.inr (some 80)))], [.inl (mu_i H24 (m + 19) 2), .inl (3 : Int32), .inr (.inr (some 80))], H24)) (C := [mu_is H24 (some (m + 19)) 10]) rfl (show mu_is H24 (some (m + 19)) 10 from hp24.i9) ?_
              refine mw_cV (fun _ => rfl) (show mu_is H24 (some 80) 7 from hp24.1.is rfl) (pb_emit (d := (d + 2)) (B := B) hp24 hBB (by omega) (3 : Int32) (mu_i H24 (m + 19) 2)) (fun H27 q27 => ?_)
              obtain ⟨hp27, qt27, qi27, qs27, qb27, qa27⟩ := q27
              have ht27 := ht24.trans qt27
              have ha27 : ab m H27 = (tp 0 (ab m H) (3 : Int32) (nI ((ab m H) 9).1) 0 0) := qa27.trans (by rw [ha24, (show mu_i H24 (m + 19) 2 = nI ((ab m H) 9).1 from sz_n hp24 ha24 (j := 9) (by decide))])
              refine mw_go mu_g149 (k := 1) (f1 := (138, [(0, .inr (.inr (some 80)))], [.inr (.inr (some 80))], H27)) (C := []) rfl trivial ?_
              refine mw_cI (fun _ => rfl) (show mu_is H27 (some 80) 7 from hp27.1.is rfl) (pb_names (d := (d + 2)) (B := B) hp27 hBB (by omega) (by rw [ha27]; exact (hy.1.emit (okc_name (o := 3) (by decide))))) (fun x28 H28 q28 => ?_)
              rcases q28 with ⟨rfl, hp28, qt28, qb28⟩ | ⟨rfl, hp28, qt28, qb28, qc28, qi28⟩
              · -- (0 : Int32)
                have ht28 := ht27.trans qt28
                have hc28 : ps_mp (mu_i H27 80 6) = ps_mp (mu_i H 80 6) := congrArg ps_mp (show mu_i H27 80 6 = (mu_i H 80 6) from ((qi27 6).trans ((qk24.1 6 (by decide)).trans (qk21.1 6 (by decide)))))
                refine mw_if (P := (0 : Int32) = 0) (a := 153) (b := 144) (fun _ => rfl) trivial (fun h29 => ?_) (fun h29 => absurd (by decide) h29)
                refine mw_go mu_g149 (k := 1) (f1 := (154, [(0, .inr (.inr (some 80)))], [.inl (0 : Int32)], H28)) (C := []) rfl trivial ?_
                exact mw_of (fun _ => mu_ret rfl (Or.inl rfl) ⟨_, H28, rfl, Or.inl ⟨rfl, hp28, ht28, by omega⟩⟩)
              · -- (1 : Int32)
                have ht28 := ht27.trans qt28
                have hc28 : ps_mp (mu_i H27 80 6) = ps_mp (mu_i H 80 6) := congrArg ps_mp (show mu_i H27 80 6 = (mu_i H 80 6) from ((qi27 6).trans ((qk24.1 6 (by decide)).trans (qk21.1 6 (by decide)))))
                have hy28 : cy (ab m H28) f [false] false := hy.name (o := 3) (by decide) (ab_lt h rfl (by decide)) (pot_0 (m := m) (H := H) (by omega)) (by have z := qc28; rw [ha27] at z; exact z)
                refine mw_if (P := (1 : Int32) = 0) (a := 153) (b := 144) (fun _ => rfl) trivial (fun h30 => absurd h30 (by decide)) (fun h30 => ?_)
                refine mw_go mu_g149 (k := 2) (f1 := (147, [(0, .inr (.inr (some 80)))], [.inl (65 : Int32), .inr (.inr (some 80))], H28)) (C := []) rfl trivial ?_
                refine mw_cI (fun _ => rfl) (show mu_is H28 (some 80) 7 from hp28.1.is rfl) (pb_take (d := (d + 3)) (B := B) hp28 (65 : Int32) (by decide)) (fun x31 H31 q31 => ?_)
                rcases q31 with ⟨rfl, rfl, qe31⟩ | ⟨rfl, hp31, qt31, qk31, qb31, qe31, qa31⟩
                · -- (0 : Int32)
                  refine mw_if (P := (0 : Int32) = 0) (a := 153) (b := 155) (fun _ => rfl) trivial (fun h32 => ?_) (fun h32 => absurd (by decide) h32)
                  refine mw_go mu_g149 (k := 1) (f1 := (154, [(0, .inr (.inr (some 80)))], [.inl (0 : Int32)], H28)) (C := []) rfl trivial ?_
                  exact mw_of (fun _ => mu_ret rfl (Or.inl rfl) ⟨_, H28, rfl, Or.inl ⟨rfl, hp28, ht28, by omega⟩⟩)
                · -- (1 : Int32)
                  have ht31 := ht28.trans qt31
                  have qs31 : gi_sz H31 89 = gi_sz H28 89 := qk31.2
                  have ha31 : ab m H31 = (ab m H28) := qa31
                  refine mw_if (P := (1 : Int32) = 0) (a := 153) (b := 155) (fun _ => rfl) trivial (fun h33 => absurd h33 (by decide)) (fun h33 => ?_)
                  refine mw_go mu_g149 (k := 1) (f1 := (156, [(0, .inr (.inr (some 80)))], [.inr (.inr (some 80))], H31)) (C := []) rfl trivial ?_
                  refine mw_cV (fun _ => rfl) (show mu_is H31 (some 80) 7 from hp31.1.is rfl) (pb_fact (d := d) (B := B) (f := f) hp31 hBB (by omega) (by rw [ha31]; exact hy28)) (fun H34 q34 => ?_)
                  obtain ⟨hp34, qt34, qi34, qb34, qm34, hy34⟩ := q34
                  have ht34 := ht31.trans qt34
                  have hc34 : ps_mp (mu_i H31 80 6) = ps_mp (mu_i H 80 6) := congrArg ps_mp (show mu_i H31 80 6 = (mu_i H 80 6) from ((qk31.1 6 (by decide)).trans ((qi28 6 (by decide)).trans ((qi27 6).trans ((qk24.1 6 (by decide)).trans (qk21.1 6 (by decide)))))))
                  refine mw_go mu_g149 (k := 1) (f1 := (160, [(0, .inr (.inr (some 80)))], [.inl (1 : Int32)], H34)) (C := []) rfl trivial ?_
                  exact mw_of (fun _ => mu_ret rfl (Or.inr rfl) ⟨_, H34, rfl, Or.inr ⟨rfl, hp34, ht34, by omega, (PC_c (show mu_i H34 80 6 = 8 from qm34) (show mu_i H34 80 9 = nI f from (((qi34 9 (by decide)).trans ((qk31.1 9 (by decide)).trans ((qi28 9 (by decide)).trans ((qi27 9).trans ((qk24.1 9 (by decide)).trans (qk21.1 9 (by decide))))))).trans hfr)) rfl hy34 (Or.inr (Or.inr (Or.inl ⟨rfl, rfl, rfl⟩))))⟩⟩)
theorem pb_prefix (h : ps m H) (hBB : B ≤ 1000000) (hB : ps_pot m H ≤ B + 90) {f : Nat} (hfr : mu_i H 80 9 = nI f) (hy : cy (ab m H) f [] false) (hpre : mu_i H 80 4 = 74 ∨ (¬ mu_i H 80 4 < 13 ∧ ¬ 20 < mu_i H 80 4)) : mu_TI (mu_D (d + 5)) 147 [.inr (.inr (some 80))] H (fun x H1 => (x = 0 ∧ ps m H1 ∧ pt m B H H1 ∧ ps_pot m H1 ≤ ps_pot m H + 50) ∨ (x = 1 ∧ ps m H1 ∧ pt m B H H1 ∧ ps_pot m H1 + 0 ≤ ps_pot m H ∧ PC m H1)) := by
  refine mu_meth (M := mu_m147) rfl rfl ?_
  refine mw_ht (mu_fn_of (show [0].Nodup by decide)) ?_
  refine mw_go mu_g147 (k := 6) (f1 := (10, [(1, .inl (mu_i H 80 4)), (0, .inr (.inr (some 80)))], [.inl (5 : Int32), .inl (mu_i H 80 6)], H)) (C := [mu_is H (some 80) 7, mu_is H (some 80) 7]) rfl (show (mu_is H (some 80) 7) ∧ (mu_is H (some 80) 7) from ⟨h.1.is rfl, h.1.is rfl⟩) ?_
  refine mw_if (P := (mu_i H 80 6) = (5 : Int32)) (a := 13) (b := 25) (fun _ => rfl) trivial (fun h1 => ?_) (fun h1 => ?_)
  · -- 13: (mu_i H 80 6) = (5 : Int32)
    refine mw_go mu_g147 (k := 5) (f1 := (22, [(1, .inl (mu_i H 80 4)), (0, .inr (.inr (some 80)))], [.inl (150 : Int32), .inl ((mu_i H 80 8) + (1 : Int32))], H)) (C := [mu_is H (some 80) 7]) rfl (show mu_is H (some 80) 7 from h.1.is rfl) ?_
    refine mw_if (P := (150 : Int32) < ((mu_i H 80 8) + (1 : Int32))) (a := 25) (b := 27) (fun _ => rfl) trivial (fun h2 => ?_) (fun h2 => ?_)
    · -- 25: (150 : Int32) < ((mu_i H 80 8) + (1 : Int32))
      refine mw_go mu_g147 (k := 1) (f1 := (26, [(1, .inl (mu_i H 80 4)), (0, .inr (.inr (some 80)))], [.inl (0 : Int32)], H)) (C := []) rfl trivial ?_
      exact mw_of (fun _ => mu_ret rfl (Or.inl rfl) ⟨_, H, rfl, Or.inl ⟨rfl, h, (pt.refl m B H), by omega⟩⟩)
    · -- 27: not (150 : Int32) < ((mu_i H 80 8) + (1 : Int32))
      refine mw_go mu_g147 (k := 7) (f1 := (38, [(1, .inl (mu_i H 80 4)), (0, .inr (.inr (some 80)))], [.inr (.inr (some 80))], (mu_si H 80 8 ((mu_i H 80 8) + (1 : Int32))))) (C := [mu_is H (some 80) 7, mu_is H (some 80) 7]) rfl (show (mu_is H (some 80) 7) ∧ (mu_is H (some 80) 7) from ⟨h.1.is rfl, h.1.is rfl⟩) ?_
      have hp3 : ps m (mu_si H 80 8 ((mu_i H 80 8) + (1 : Int32))) := h.si (by decide) (by decide)
      have ht3 : pt m B H (mu_si H 80 8 ((mu_i H 80 8) + (1 : Int32))) := (pt.refl m B H).trans (pt.si h)
      have ha3 : ab m (mu_si H 80 8 ((mu_i H 80 8) + (1 : Int32))) = (ab m H) := ab_si h.1 h.2.1
      have hb3 : ps_pot m (mu_si H 80 8 ((mu_i H 80 8) + (1 : Int32))) = ps_pot m H := ps_potj h ((mu_i H 80 8) + (1 : Int32)) (by decide) (by decide)
      have hs3 : gi_sz (mu_si H 80 8 ((mu_i H 80 8) + (1 : Int32))) 89 = gi_sz H 89 := rfl
      refine mw_cV (fun _ => rfl) (show mu_is (mu_si H 80 8 ((mu_i H 80 8) + (1 : Int32))) (some 80) 7 from hp3.1.is rfl) (pb_adv (d := (d + 2)) (B := B) hp3) (fun H5 q5 => ?_)
      obtain ⟨⟨hp5, qt5, qk5, qb5, qc5⟩, qa5⟩ := q5
      have ht5 := ht3.trans qt5
      have qs5 : gi_sz H5 89 = gi_sz (mu_si H 80 8 ((mu_i H 80 8) + (1 : Int32))) 89 := qk5.2
      have ha5 : ab m H5 = (ab m H) := qa5.trans (by rw [ha3])
      have qd5 := qc5 (show mu_i (mu_si H 80 8 ((mu_i H 80 8) + (1 : Int32))) 80 4 < 114 from (show (mu_i H 80 4) < 114 from (hpre.elim (fun e => by rw [e]; decide) (fun e => ps_lt e.2 (by decide)))))
      refine mw_go mu_g147 (k := 2) (f1 := (44, [(1, .inl (mu_i H 80 4)), (0, .inr (.inr (some 80)))], [.inl (74 : Int32), .inl (mu_i H 80 4)], H5)) (C := []) rfl trivial ?_
      refine mw_if (P := (mu_i H 80 4) = (74 : Int32)) (a := 47) (b := 57) (fun _ => rfl) trivial (fun h6 => ?_) (fun h6 => ?_)
      · -- 47: (mu_i H 80 4) = (74 : Int32)
        refine mw_go mu_g147 (k := 3) (f1 := (51, [(1, .inl (mu_i H 80 4)), (0, .inr (.inr (some 80)))], [.inl (0 : Int32), .inl (9 : Int32), .inr (.inr (some 80))], H5)) (C := []) rfl trivial ?_
        refine mw_cV (fun _ => rfl) (show mu_is H5 (some 80) 7 from hp5.1.is rfl) (pb_push (d := d) (B := B) hp5 hBB (by omega) (9 : Int32) (0 : Int32) ⟨9, by decide, rfl⟩) (fun H7 q7 => ?_)
        obtain ⟨hp7, qt7, qi7, qs7, qb7, qa7⟩ := q7
        have ht7 := ht5.trans qt7
        have ha7 : ab m H7 = (tp 11 (ab m H) (9 : Int32) (0 : Int32) 0 0) := qa7.trans (by rw [ha5])
        refine mw_go mu_g147 (k := 2) (f1 := (115, [(1, .inl (mu_i H 80 4)), (0, .inr (.inr (some 80)))], [.inl (1 : Int32)], H7)) (C := []) rfl trivial ?_
        exact mw_of (fun _ => mu_ret rfl (Or.inr rfl) ⟨_, H7, rfl, Or.inr ⟨rfl, hp7, ht7, by omega, (PC_c (show mu_i H7 80 6 = 5 from (((qi7 6).trans (qk5.1 6 (by decide))).trans h1)) (show mu_i H7 80 9 = nI f from (((qi7 9).trans (qk5.1 9 (by decide))).trans hfr)) ha7 (hy.pun (q := 9) (by decide) (Or.inl rfl)) (Or.inl ⟨Or.inl rfl, rfl, rfl⟩))⟩⟩)
      · -- 57: not (mu_i H 80 4) = (74 : Int32)
        refine mw_go mu_g147 (k := 2) (f1 := (60, [(1, .inl (mu_i H 80 4)), (0, .inr (.inr (some 80)))], [.inl (18 : Int32), .inl (mu_i H 80 4)], H5)) (C := []) rfl trivial ?_
        refine mw_if (P := (18 : Int32) < (mu_i H 80 4)) (a := 78) (b := 63) (fun _ => rfl) trivial (fun h8 => ?_) (fun h8 => ?_)
        · -- 78: (18 : Int32) < (mu_i H 80 4)
          refine mw_go mu_g147 (k := 3) (f1 := (83, [(1, .inl (mu_i H 80 4)), (0, .inr (.inr (some 80)))], [.inl (mu_i H5 80 8), .inr (.inr (some 80))], H5)) (C := [mu_is H5 (some 80) 7]) rfl (show mu_is H5 (some 80) 7 from hp5.1.is rfl) ?_
          rw [(qk5.1 8 (by decide))]
          refine mw_go mu_g147 (k := 7) (f1 := (94, [(1, .inl (mu_i H 80 4)), (0, .inr (.inr (some 80)))], [.inl (19 : Int32), .inl (mu_i H 80 4), .inl (45 : Int32), .inr (.inr (some 80))], (mu_si H5 80 8 (((mu_i H 80 8) + (1 : Int32)) + (1 : Int32))))) (C := [mu_is H5 (some 80) 7]) rfl (show mu_is H5 (some 80) 7 from hp5.1.is rfl) ?_
          refine mw_if (P := (mu_i H 80 4) = (19 : Int32)) (a := 97) (b := 102) (fun _ => rfl) trivial (fun h9 => ?_) (fun h9 => ?_)
          · -- 97: (mu_i H 80 4) = (19 : Int32)
            refine mw_go mu_g147 (k := 2) (f1 := (104, [(1, .inl (mu_i H 80 4)), (0, .inr (.inr (some 80)))], [.inl (28 : Int32), .inl (45 : Int32), .inr (.inr (some 80))], (mu_si H5 80 8 (((mu_i H 80 8) + (1 : Int32)) + (1 : Int32))))) (C := []) rfl trivial ?_
            have hp10 : ps m (mu_si H5 80 8 (((mu_i H 80 8) + (1 : Int32)) + (1 : Int32))) := hp5.si (by decide) (by decide)
            have ht10 : pt m B H (mu_si H5 80 8 (((mu_i H 80 8) + (1 : Int32)) + (1 : Int32))) := ht5.trans (pt.si hp5)
            have ha10 : ab m (mu_si H5 80 8 (((mu_i H 80 8) + (1 : Int32)) + (1 : Int32))) = (ab m H) := (ab_si hp5.1 hp5.2.1).trans ha5
            have hb10 : ps_pot m (mu_si H5 80 8 (((mu_i H 80 8) + (1 : Int32)) + (1 : Int32))) = ps_pot m H5 := ps_potj hp5 (((mu_i H 80 8) + (1 : Int32)) + (1 : Int32)) (by decide) (by decide)
            have hs10 : gi_sz (mu_si H5 80 8 (((mu_i H 80 8) + (1 : Int32)) + (1 : Int32))) 89 = gi_sz H5 89 := rfl
            have hi11_6 : mu_i (mu_si H5 80 8 (((mu_i H 80 8) + (1 : Int32)) + (1 : Int32))) 80 6 = (mu_i H 80 6) := (qk5.1 6 (by decide))
            have hi11_7 : mu_i (mu_si H5 80 8 (((mu_i H 80 8) + (1 : Int32)) + (1 : Int32))) 80 7 = (mu_i H 80 7) := (qk5.1 7 (by decide))
            have hi11_9 : mu_i (mu_si H5 80 8 (((mu_i H 80 8) + (1 : Int32)) + (1 : Int32))) 80 9 = (mu_i H 80 9) := (qk5.1 9 (by decide))
            have hi11_10 : mu_i (mu_si H5 80 8 (((mu_i H 80 8) + (1 : Int32)) + (1 : Int32))) 80 10 = (mu_i H 80 10) := (qk5.1 10 (by decide))
            have hi11_11 : mu_i (mu_si H5 80 8 (((mu_i H 80 8) + (1 : Int32)) + (1 : Int32))) 80 11 = (mu_i H 80 11) := (qk5.1 11 (by decide))
            refine mw_cV (fun _ => rfl) (show mu_is (mu_si H5 80 8 (((mu_i H 80 8) + (1 : Int32)) + (1 : Int32))) (some 80) 7 from hp10.1.is rfl) (pb_push (d := d) (B := B) hp10 hBB (by omega) (45 : Int32) (28 : Int32) ⟨45, by decide, rfl⟩) (fun H12 q12 => ?_)
            obtain ⟨hp12, qt12, qi12, qs12, qb12, qa12⟩ := q12
            have ht12 := ht10.trans qt12
            have ha12 : ab m H12 = (tp 11 (ab m H) (45 : Int32) (28 : Int32) 0 0) := qa12.trans (by rw [ha10])
            refine mw_go mu_g147 (k := 2) (f1 := (110, [(1, .inl (mu_i H 80 4)), (0, .inr (.inr (some 80)))], [.inl (68 : Int32), .inr (.inr (some 80))], H12)) (C := []) rfl trivial ?_
            refine mw_cI (fun _ => rfl) (show mu_is H12 (some 80) 7 from hp12.1.is rfl) (pb_take (d := (d + 1)) (B := B) hp12 (68 : Int32) (by decide)) (fun x13 H13 q13 => ?_)
            rcases q13 with ⟨rfl, rfl, qe13⟩ | ⟨rfl, hp13, qt13, qk13, qb13, qe13, qa13⟩
            · -- (0 : Int32)
              exact mw_of (fun _ => mu_ret rfl (Or.inl rfl) ⟨_, H12, rfl, Or.inl ⟨rfl, hp12, ht12, by omega⟩⟩)
            · -- (1 : Int32)
              have ht13 := ht12.trans qt13
              have qs13 : gi_sz H13 89 = gi_sz H12 89 := qk13.2
              have ha13 : ab m H13 = (tp 11 (ab m H) (45 : Int32) (28 : Int32) 0 0) := qa13.trans (by rw [ha12])
              exact mw_of (fun _ => mu_ret rfl (Or.inr rfl) ⟨_, H13, rfl, Or.inr ⟨rfl, hp13, ht13, by omega, (PC_c (show mu_i H13 80 6 = 5 from (((qk13.1 6 (by decide)).trans ((qi12 6).trans hi11_6)).trans h1)) (show mu_i H13 80 9 = nI f from (((qk13.1 9 (by decide)).trans ((qi12 9).trans hi11_9)).trans hfr)) ha13 (hy.p45 (by decide)) (Or.inl ⟨Or.inl rfl, rfl, rfl⟩))⟩⟩)
          · -- 102: not (mu_i H 80 4) = (19 : Int32)
            refine mw_go mu_g147 (k := 1) (f1 := (104, [(1, .inl (mu_i H 80 4)), (0, .inr (.inr (some 80)))], [.inl (29 : Int32), .inl (45 : Int32), .inr (.inr (some 80))], (mu_si H5 80 8 (((mu_i H 80 8) + (1 : Int32)) + (1 : Int32))))) (C := []) rfl trivial ?_
            have hp14 : ps m (mu_si H5 80 8 (((mu_i H 80 8) + (1 : Int32)) + (1 : Int32))) := hp5.si (by decide) (by decide)
            have ht14 : pt m B H (mu_si H5 80 8 (((mu_i H 80 8) + (1 : Int32)) + (1 : Int32))) := ht5.trans (pt.si hp5)
            have ha14 : ab m (mu_si H5 80 8 (((mu_i H 80 8) + (1 : Int32)) + (1 : Int32))) = (ab m H) := (ab_si hp5.1 hp5.2.1).trans ha5
            have hb14 : ps_pot m (mu_si H5 80 8 (((mu_i H 80 8) + (1 : Int32)) + (1 : Int32))) = ps_pot m H5 := ps_potj hp5 (((mu_i H 80 8) + (1 : Int32)) + (1 : Int32)) (by decide) (by decide)
            have hs14 : gi_sz (mu_si H5 80 8 (((mu_i H 80 8) + (1 : Int32)) + (1 : Int32))) 89 = gi_sz H5 89 := rfl
            have hi15_6 : mu_i (mu_si H5 80 8 (((mu_i H 80 8) + (1 : Int32)) + (1 : Int32))) 80 6 = (mu_i H 80 6) := (qk5.1 6 (by decide))
            have hi15_7 : mu_i (mu_si H5 80 8 (((mu_i H 80 8) + (1 : Int32)) + (1 : Int32))) 80 7 = (mu_i H 80 7) := (qk5.1 7 (by decide))
            have hi15_9 : mu_i (mu_si H5 80 8 (((mu_i H 80 8) + (1 : Int32)) + (1 : Int32))) 80 9 = (mu_i H 80 9) := (qk5.1 9 (by decide))
            have hi15_10 : mu_i (mu_si H5 80 8 (((mu_i H 80 8) + (1 : Int32)) + (1 : Int32))) 80 10 = (mu_i H 80 10) := (qk5.1 10 (by decide))
            have hi15_11 : mu_i (mu_si H5 80 8 (((mu_i H 80 8) + (1 : Int32)) + (1 : Int32))) 80 11 = (mu_i H 80 11) := (qk5.1 11 (by decide))
            refine mw_cV (fun _ => rfl) (show mu_is (mu_si H5 80 8 (((mu_i H 80 8) + (1 : Int32)) + (1 : Int32))) (some 80) 7 from hp14.1.is rfl) (pb_push (d := d) (B := B) hp14 hBB (by omega) (45 : Int32) (29 : Int32) ⟨45, by decide, rfl⟩) (fun H16 q16 => ?_)
            obtain ⟨hp16, qt16, qi16, qs16, qb16, qa16⟩ := q16
            have ht16 := ht14.trans qt16
            have ha16 : ab m H16 = (tp 11 (ab m H) (45 : Int32) (29 : Int32) 0 0) := qa16.trans (by rw [ha14])
            refine mw_go mu_g147 (k := 2) (f1 := (110, [(1, .inl (mu_i H 80 4)), (0, .inr (.inr (some 80)))], [.inl (68 : Int32), .inr (.inr (some 80))], H16)) (C := []) rfl trivial ?_
            refine mw_cI (fun _ => rfl) (show mu_is H16 (some 80) 7 from hp16.1.is rfl) (pb_take (d := (d + 1)) (B := B) hp16 (68 : Int32) (by decide)) (fun x17 H17 q17 => ?_)
            rcases q17 with ⟨rfl, rfl, qe17⟩ | ⟨rfl, hp17, qt17, qk17, qb17, qe17, qa17⟩
            · -- (0 : Int32)
              exact mw_of (fun _ => mu_ret rfl (Or.inl rfl) ⟨_, H16, rfl, Or.inl ⟨rfl, hp16, ht16, by omega⟩⟩)
            · -- (1 : Int32)
              have ht17 := ht16.trans qt17
              have qs17 : gi_sz H17 89 = gi_sz H16 89 := qk17.2
              have ha17 : ab m H17 = (tp 11 (ab m H) (45 : Int32) (29 : Int32) 0 0) := qa17.trans (by rw [ha16])
              exact mw_of (fun _ => mu_ret rfl (Or.inr rfl) ⟨_, H17, rfl, Or.inr ⟨rfl, hp17, ht17, by omega, (PC_c (show mu_i H17 80 6 = 5 from (((qk17.1 6 (by decide)).trans ((qi16 6).trans hi15_6)).trans h1)) (show mu_i H17 80 9 = nI f from (((qk17.1 9 (by decide)).trans ((qi16 9).trans hi15_9)).trans hfr)) ha17 (hy.p45 (by decide)) (Or.inl ⟨Or.inl rfl, rfl, rfl⟩))⟩⟩)
        · -- 63: not (18 : Int32) < (mu_i H 80 4)
          refine mw_go mu_g147 (k := 7) (f1 := (72, [(1, .inl (mu_i H 80 4)), (0, .inr (.inr (some 80)))], [.inl (0 : Int32), .inl (((10 : Int32) + (mu_i H 80 4)) - (13 : Int32)), .inr (.inr (some 80))], H5)) (C := []) rfl trivial ?_
          refine mw_cV (fun _ => rfl) (show mu_is H5 (some 80) 7 from hp5.1.is rfl) (pb_push (d := d) (B := B) hp5 hBB (by omega) (((10 : Int32) + (mu_i H 80 4)) - (13 : Int32)) (0 : Int32) (ps_ex (hpre.elim (fun e => absurd e h6) (fun e => e.1)) h8)) (fun H18 q18 => ?_)
          obtain ⟨hp18, qt18, qi18, qs18, qb18, qa18⟩ := q18
          have ht18 := ht5.trans qt18
          have ha18 : ab m H18 = (tp 11 (ab m H) (((10 : Int32) + (mu_i H 80 4)) - (13 : Int32)) (0 : Int32) 0 0) := qa18.trans (by rw [ha5])
          refine mw_go mu_g147 (k := 2) (f1 := (115, [(1, .inl (mu_i H 80 4)), (0, .inr (.inr (some 80)))], [.inl (1 : Int32)], H18)) (C := []) rfl trivial ?_
          exact mw_of (fun _ => mu_ret rfl (Or.inr rfl) ⟨_, H18, rfl, Or.inr ⟨rfl, hp18, ht18, by omega, (PC_c (show mu_i H18 80 6 = 5 from (((qi18 6).trans (qk5.1 6 (by decide))).trans h1)) (show mu_i H18 80 9 = nI f from (((qi18 9).trans (qk5.1 9 (by decide))).trans hfr)) ha18 (by obtain ⟨k, k1, k2, e⟩ := ps_ex2 (hpre.elim (fun e => absurd e h6) (fun e => e.1)) h8; rw [e]; exact hy.pun (Or.inl ⟨by omega, by omega⟩) (Or.inl rfl)) (Or.inl ⟨Or.inl rfl, rfl, rfl⟩))⟩⟩)
  · -- 25: not (mu_i H 80 6) = (5 : Int32)
    refine mw_go mu_g147 (k := 1) (f1 := (26, [(1, .inl (mu_i H 80 4)), (0, .inr (.inr (some 80)))], [.inl (0 : Int32)], H)) (C := []) rfl trivial ?_
    exact mw_of (fun _ => mu_ret rfl (Or.inl rfl) ⟨_, H, rfl, Or.inl ⟨rfl, h, (pt.refl m B H), by omega⟩⟩)
theorem pb_operand (h : ps m H) (hBB : B ≤ 1000000) (hB : ps_pot m H ≤ B + 80) {f : Nat} (hfr : mu_i H 80 9 = nI f) (hy : cy (ab m H) f [] false) : mu_TI (mu_D (d + 8)) 145 [.inr (.inr (some 80))] H (fun x H1 => (x = 0 ∧ ps m H1 ∧ pt m B H H1 ∧ ps_pot m H1 ≤ ps_pot m H + 60) ∨ (x = 1 ∧ ps m H1 ∧ pt m B H H1 ∧ ps_pot m H1 + 0 ≤ ps_pot m H ∧ PC m H1)) := by
  refine mu_meth (M := mu_m145) rfl rfl ?_
  refine mw_ht (mu_fn_of (show [0].Nodup by decide)) ?_
  refine mw_go mu_g145 (k := 3) (f1 := (6, [(0, .inr (.inr (some 80)))], [.inl (74 : Int32), .inl (mu_i H 80 4)], H)) (C := [mu_is H (some 80) 7]) rfl (show mu_is H (some 80) 7 from h.1.is rfl) ?_
  refine mw_if (P := (mu_i H 80 4) = (74 : Int32)) (a := 27) (b := 9) (fun _ => rfl) trivial (fun h1 => ?_) (fun h1 => ?_)
  · -- 27: (mu_i H 80 4) = (74 : Int32)
    refine mw_go mu_g145 (k := 1) (f1 := (28, [(0, .inr (.inr (some 80)))], [.inr (.inr (some 80))], H)) (C := []) rfl trivial ?_
    refine mw_cI (fun _ => rfl) (show mu_is H (some 80) 7 from h.1.is rfl) (pb_prefix (d := (d + 2)) (B := B) h hBB (by omega) (show mu_i H 80 9 = nI f from hfr) hy (Or.inl h1)) (fun x2 H2 q2 => ?_)
    rcases q2 with ⟨rfl, hp2, qt2, qb2⟩ | ⟨rfl, hp2, qt2, qb2, qp2⟩
    · -- (0 : Int32)
      have ht2 := (pt.refl m B H).trans qt2
      have hc2 : ps_mp (mu_i H 80 6) = ps_mp (mu_i H 80 6) := congrArg ps_mp (show mu_i H 80 6 = (mu_i H 80 6) from rfl)
      exact mw_of (fun _ => mu_ret rfl (Or.inl rfl) ⟨_, H2, rfl, Or.inl ⟨rfl, hp2, ht2, by omega⟩⟩)
    · -- (1 : Int32)
      have ht2 := (pt.refl m B H).trans qt2
      have hc2 : ps_mp (mu_i H 80 6) = ps_mp (mu_i H 80 6) := congrArg ps_mp (show mu_i H 80 6 = (mu_i H 80 6) from rfl)
      exact mw_of (fun _ => mu_ret rfl (Or.inr rfl) ⟨_, H2, rfl, Or.inr ⟨rfl, hp2, ht2, by omega, qp2⟩⟩)
  · -- 9: not (mu_i H 80 4) = (74 : Int32)
    refine mw_go mu_g145 (k := 3) (f1 := (15, [(0, .inr (.inr (some 80)))], [.inl (13 : Int32), .inl (mu_i H 80 4)], H)) (C := [mu_is H (some 80) 7]) rfl (show mu_is H (some 80) 7 from h.1.is rfl) ?_
    refine mw_if (P := (mu_i H 80 4) < (13 : Int32)) (a := 32) (b := 18) (fun _ => rfl) trivial (fun h3 => ?_) (fun h3 => ?_)
    · -- 32: (mu_i H 80 4) < (13 : Int32)
      refine mw_go mu_g145 (k := 3) (f1 := (37, [(0, .inr (.inr (some 80)))], [.inl (5 : Int32), .inl (mu_i H 80 6)], H)) (C := [mu_is H (some 80) 7]) rfl (show mu_is H (some 80) 7 from h.1.is rfl) ?_
      refine mw_if (P := (mu_i H 80 6) = (5 : Int32)) (a := 40) (b := 44) (fun _ => rfl) trivial (fun h4 => ?_) (fun h4 => ?_)
      · -- 40: (mu_i H 80 6) = (5 : Int32)
        refine mw_go mu_g145 (k := 5) (f1 := (51, [(0, .inr (.inr (some 80)))], [.inl (24 : Int32), .inl (mu_i H 80 4), .inl (2 : Int32)], H)) (C := [mu_is H (some 80) 7]) rfl (show mu_is H (some 80) 7 from h.1.is rfl) ?_
        refine mw_if (P := (mu_i H 80 4) = (24 : Int32)) (a := 54) (b := 58) (fun _ => rfl) trivial (fun h5 => ?_) (fun h5 => ?_)
        · -- 54: (mu_i H 80 4) = (24 : Int32)
          refine mw_go mu_g145 (k := 9) (f1 := (70, [(1, .inl ((2 : Int32) + (1 : Int32))), (0, .inr (.inr (some 80)))], [.inl (150 : Int32), .inl ((mu_i H 80 8) + ((2 : Int32) + (1 : Int32)))], H)) (C := [mu_is H (some 80) 7]) rfl (show mu_is H (some 80) 7 from h.1.is rfl) ?_
          refine mw_if (P := (150 : Int32) < ((mu_i H 80 8) + ((2 : Int32) + (1 : Int32)))) (a := 73) (b := 75) (fun _ => rfl) trivial (fun h6 => ?_) (fun h6 => ?_)
          · -- 73: (150 : Int32) < ((mu_i H 80 8) + ((2 : Int32) + (1 : Int32)))
            refine mw_go mu_g145 (k := 1) (f1 := (74, [(1, .inl ((2 : Int32) + (1 : Int32))), (0, .inr (.inr (some 80)))], [.inl (0 : Int32)], H)) (C := []) rfl trivial ?_
            exact mw_of (fun _ => mu_ret rfl (Or.inl rfl) ⟨_, H, rfl, Or.inl ⟨rfl, h, (pt.refl m B H), by omega⟩⟩)
          · -- 75: not (150 : Int32) < ((mu_i H 80 8) + ((2 : Int32) + (1 : Int32)))
            refine mw_go mu_g145 (k := 9) (f1 := (91, [(1, .inl ((2 : Int32) + (1 : Int32))), (0, .inr (.inr (some 80)))], [.inl (81 : Int32), .inl (mu_i H 80 4)], (mu_si H 80 8 ((mu_i H 80 8) + ((2 : Int32) + (1 : Int32)))))) (C := [mu_is H (some 80) 7, mu_is H (some 80) 7, mu_is (mu_si H 80 8 ((mu_i H 80 8) + ((2 : Int32) + (1 : Int32)))) (some 80) 7]) rfl (show (mu_is H (some 80) 7) ∧ (mu_is H (some 80) 7) ∧ (mu_is (mu_si H 80 8 ((mu_i H 80 8) + ((2 : Int32) + (1 : Int32)))) (some 80) 7) from ⟨h.1.is rfl, h.1.is rfl, h.1.is rfl⟩) ?_
            refine mw_if (P := (mu_i H 80 4) = (81 : Int32)) (a := 94) (b := 110) (fun _ => rfl) trivial (fun h7 => ?_) (fun h7 => ?_)
            · -- 94: (mu_i H 80 4) = (81 : Int32)
              refine mw_go mu_g145 (k := 3) (f1 := (98, [(1, .inl ((2 : Int32) + (1 : Int32))), (0, .inr (.inr (some 80)))], [.inl (0 : Int32), .inl (27 : Int32), .inr (.inr (some 80))], (mu_si H 80 8 ((mu_i H 80 8) + ((2 : Int32) + (1 : Int32)))))) (C := []) rfl trivial ?_
              have hp8 : ps m (mu_si H 80 8 ((mu_i H 80 8) + ((2 : Int32) + (1 : Int32)))) := h.si (by decide) (by decide)
              have ht8 : pt m B H (mu_si H 80 8 ((mu_i H 80 8) + ((2 : Int32) + (1 : Int32)))) := (pt.refl m B H).trans (pt.si h)
              have ha8 : ab m (mu_si H 80 8 ((mu_i H 80 8) + ((2 : Int32) + (1 : Int32)))) = (ab m H) := ab_si h.1 h.2.1
              have hb8 : ps_pot m (mu_si H 80 8 ((mu_i H 80 8) + ((2 : Int32) + (1 : Int32)))) = ps_pot m H := ps_potj h ((mu_i H 80 8) + ((2 : Int32) + (1 : Int32))) (by decide) (by decide)
              have hs8 : gi_sz (mu_si H 80 8 ((mu_i H 80 8) + ((2 : Int32) + (1 : Int32)))) 89 = gi_sz H 89 := rfl
              refine mw_cV (fun _ => rfl) (show mu_is (mu_si H 80 8 ((mu_i H 80 8) + ((2 : Int32) + (1 : Int32)))) (some 80) 7 from hp8.1.is rfl) (pb_push (d := (d + 3)) (B := B) hp8 hBB (by omega) (27 : Int32) (0 : Int32) ⟨27, by decide, rfl⟩) (fun H10 q10 => ?_)
              obtain ⟨hp10, qt10, qi10, qs10, qb10, qa10⟩ := q10
              have ht10 := ht8.trans qt10
              have ha10 : ab m H10 = (tp 11 (ab m H) (27 : Int32) (0 : Int32) 0 0) := qa10.trans (by rw [ha8])
              refine mw_go mu_g145 (k := 5) (f1 := (174, [(1, .inl ((2 : Int32) + (1 : Int32))), (0, .inr (.inr (some 80)))], [.inr (.inr (some 80))], (mu_si H10 80 6 (6 : Int32)))) (C := [mu_is H10 (some 80) 7]) rfl (show mu_is H10 (some 80) 7 from hp10.1.is rfl) ?_
              have hp11 : ps m (mu_si H10 80 6 (6 : Int32)) := hp10.si (by decide) (by decide)
              have ht11 : pt m B H (mu_si H10 80 6 (6 : Int32)) := ht10.trans (pt.si hp10)
              have ha11 : ab m (mu_si H10 80 6 (6 : Int32)) = (tp 11 (ab m H) (27 : Int32) (0 : Int32) 0 0) := (ab_si hp10.1 hp10.2.1).trans ha10
              have hb11 : ps_pot m (mu_si H10 80 6 (6 : Int32)) + ps_mp (mu_i H10 80 6) = ps_pot m H10 + 0 := ps_pot6 hp10 (6 : Int32)
              have hc11 : ps_mp (mu_i H10 80 6) = ps_mp (mu_i H 80 6) := congrArg ps_mp (show mu_i H10 80 6 = (mu_i H 80 6) from (qi10 6))
              have hs11 : gi_sz (mu_si H10 80 6 (6 : Int32)) 89 = gi_sz H10 89 := rfl
              have hi12_3 : mu_i (mu_si H10 80 6 (6 : Int32)) 80 3 = (mu_i H 80 3) := (qi10 3)
              have hi12_4 : mu_i (mu_si H10 80 6 (6 : Int32)) 80 4 = (mu_i H 80 4) := (qi10 4)
              have hi12_5 : mu_i (mu_si H10 80 6 (6 : Int32)) 80 5 = (mu_i H 80 5) := (qi10 5)
              have hi12_7 : mu_i (mu_si H10 80 6 (6 : Int32)) 80 7 = (mu_i H 80 7) := (qi10 7)
              have hi12_8 : mu_i (mu_si H10 80 6 (6 : Int32)) 80 8 = ((mu_i H 80 8) + ((2 : Int32) + (1 : Int32))) := (qi10 8)
              have hi12_9 : mu_i (mu_si H10 80 6 (6 : Int32)) 80 9 = (mu_i H 80 9) := (qi10 9)
              have hi12_10 : mu_i (mu_si H10 80 6 (6 : Int32)) 80 10 = (mu_i H 80 10) := (qi10 10)
              have hi12_11 : mu_i (mu_si H10 80 6 (6 : Int32)) 80 11 = (mu_i H 80 11) := (qi10 11)
              refine mw_cV (fun _ => rfl) (show mu_is (mu_si H10 80 6 (6 : Int32)) (some 80) 7 from hp11.1.is rfl) (pb_adv (d := (d + 5)) (B := B) hp11) (fun H13 q13 => ?_)
              obtain ⟨⟨hp13, qt13, qk13, qb13, qc13⟩, qa13⟩ := q13
              have ht13 := ht11.trans qt13
              have qs13 : gi_sz H13 89 = gi_sz (mu_si H10 80 6 (6 : Int32)) 89 := qk13.2
              have ha13 : ab m H13 = (tp 11 (ab m H) (27 : Int32) (0 : Int32) 0 0) := qa13.trans (by rw [ha11])
              have qd13 := qc13 (show mu_i (mu_si H10 80 6 (6 : Int32)) 80 4 < 114 from (by rw [hi12_4]; exact (show (mu_i H 80 4) < 114 from (by rw [h7]; decide))))
              refine mw_go mu_g145 (k := 1) (f1 := (178, [(1, .inl ((2 : Int32) + (1 : Int32))), (0, .inr (.inr (some 80)))], [.inl (1 : Int32)], H13)) (C := []) rfl trivial ?_
              exact mw_of (fun _ => mu_ret rfl (Or.inr rfl) ⟨_, H13, rfl, Or.inr ⟨rfl, hp13, ht13, by omega, (PC_c (show mu_i H13 80 6 = 6 from (qk13.1 6 (by decide))) (show mu_i H13 80 9 = nI f from (((qk13.1 9 (by decide)).trans hi12_9).trans hfr)) ha13 (hy.pun (q := 27) (by decide) (Or.inl rfl)) (Or.inl ⟨Or.inr rfl, rfl, rfl⟩))⟩⟩)
            · -- 110: not (mu_i H 80 4) = (81 : Int32)
              refine mw_go mu_g145 (k := 3) (f1 := (116, [(1, .inl ((2 : Int32) + (1 : Int32))), (0, .inr (.inr (some 80)))], [.inl (64 : Int32), .inl (mu_i H 80 4)], (mu_si H 80 8 ((mu_i H 80 8) + ((2 : Int32) + (1 : Int32)))))) (C := [mu_is (mu_si H 80 8 ((mu_i H 80 8) + ((2 : Int32) + (1 : Int32)))) (some 80) 7]) rfl (show mu_is (mu_si H 80 8 ((mu_i H 80 8) + ((2 : Int32) + (1 : Int32)))) (some 80) 7 from h.1.is rfl) ?_
              refine mw_if (P := (mu_i H 80 4) = (64 : Int32)) (a := 119) (b := 144) (fun _ => rfl) trivial (fun h14 => ?_) (fun h14 => ?_)
              · -- 119: (mu_i H 80 4) = (64 : Int32)
                refine mw_go mu_g145 (k := 3) (f1 := (123, [(1, .inl ((2 : Int32) + (1 : Int32))), (0, .inr (.inr (some 80)))], [.inl (0 : Int32), .inl (44 : Int32), .inr (.inr (some 80))], (mu_si H 80 8 ((mu_i H 80 8) + ((2 : Int32) + (1 : Int32)))))) (C := []) rfl trivial ?_
                have hp15 : ps m (mu_si H 80 8 ((mu_i H 80 8) + ((2 : Int32) + (1 : Int32)))) := h.si (by decide) (by decide)
                have ht15 : pt m B H (mu_si H 80 8 ((mu_i H 80 8) + ((2 : Int32) + (1 : Int32)))) := (pt.refl m B H).trans (pt.si h)
                have ha15 : ab m (mu_si H 80 8 ((mu_i H 80 8) + ((2 : Int32) + (1 : Int32)))) = (ab m H) := ab_si h.1 h.2.1
                have hb15 : ps_pot m (mu_si H 80 8 ((mu_i H 80 8) + ((2 : Int32) + (1 : Int32)))) = ps_pot m H := ps_potj h ((mu_i H 80 8) + ((2 : Int32) + (1 : Int32))) (by decide) (by decide)
                have hs15 : gi_sz (mu_si H 80 8 ((mu_i H 80 8) + ((2 : Int32) + (1 : Int32)))) 89 = gi_sz H 89 := rfl
                refine mw_cV (fun _ => rfl) (show mu_is (mu_si H 80 8 ((mu_i H 80 8) + ((2 : Int32) + (1 : Int32)))) (some 80) 7 from hp15.1.is rfl) (pb_push (d := (d + 3)) (B := B) hp15 hBB (by omega) (44 : Int32) (0 : Int32) ⟨44, by decide, rfl⟩) (fun H17 q17 => ?_)
                obtain ⟨hp17, qt17, qi17, qs17, qb17, qa17⟩ := q17
                have ht17 := ht15.trans qt17
                have ha17 : ab m H17 = (tp 11 (ab m H) (44 : Int32) (0 : Int32) 0 0) := qa17.trans (by rw [ha15])
                refine mw_go mu_g145 (k := 3) (f1 := (131, [(1, .inl ((2 : Int32) + (1 : Int32))), (0, .inr (.inr (some 80)))], [.inl (mu_i H17 80 8), .inr (.inr (some 80))], H17)) (C := [mu_is H17 (some 80) 7]) rfl (show mu_is H17 (some 80) 7 from hp17.1.is rfl) ?_
                rw [(qi17 8)]
                refine mw_go mu_g145 (k := 8) (f1 := (174, [(1, .inl ((2 : Int32) + (1 : Int32))), (0, .inr (.inr (some 80)))], [.inr (.inr (some 80))], (mu_si (mu_si H17 80 8 (((mu_i H 80 8) + ((2 : Int32) + (1 : Int32))) + (1 : Int32))) 80 6 (5 : Int32)))) (C := [mu_is H17 (some 80) 7, mu_is (mu_si H17 80 8 (((mu_i H 80 8) + ((2 : Int32) + (1 : Int32))) + (1 : Int32))) (some 80) 7]) rfl (show (mu_is H17 (some 80) 7) ∧ (mu_is (mu_si H17 80 8 (((mu_i H 80 8) + ((2 : Int32) + (1 : Int32))) + (1 : Int32))) (some 80) 7) from ⟨hp17.1.is rfl, hp17.1.is rfl⟩) ?_
                have hp18 : ps m (mu_si H17 80 8 (((mu_i H 80 8) + ((2 : Int32) + (1 : Int32))) + (1 : Int32))) := hp17.si (by decide) (by decide)
                have ht18 : pt m B H (mu_si H17 80 8 (((mu_i H 80 8) + ((2 : Int32) + (1 : Int32))) + (1 : Int32))) := ht17.trans (pt.si hp17)
                have ha18 : ab m (mu_si H17 80 8 (((mu_i H 80 8) + ((2 : Int32) + (1 : Int32))) + (1 : Int32))) = (tp 11 (ab m H) (44 : Int32) (0 : Int32) 0 0) := (ab_si hp17.1 hp17.2.1).trans ha17
                have hb18 : ps_pot m (mu_si H17 80 8 (((mu_i H 80 8) + ((2 : Int32) + (1 : Int32))) + (1 : Int32))) = ps_pot m H17 := ps_potj hp17 (((mu_i H 80 8) + ((2 : Int32) + (1 : Int32))) + (1 : Int32)) (by decide) (by decide)
                have hs18 : gi_sz (mu_si H17 80 8 (((mu_i H 80 8) + ((2 : Int32) + (1 : Int32))) + (1 : Int32))) 89 = gi_sz H17 89 := rfl
                have hp19 : ps m (mu_si (mu_si H17 80 8 (((mu_i H 80 8) + ((2 : Int32) + (1 : Int32))) + (1 : Int32))) 80 6 (5 : Int32)) := hp18.si (by decide) (by decide)
                have ht19 : pt m B H (mu_si (mu_si H17 80 8 (((mu_i H 80 8) + ((2 : Int32) + (1 : Int32))) + (1 : Int32))) 80 6 (5 : Int32)) := ht18.trans (pt.si hp18)
                have ha19 : ab m (mu_si (mu_si H17 80 8 (((mu_i H 80 8) + ((2 : Int32) + (1 : Int32))) + (1 : Int32))) 80 6 (5 : Int32)) = (tp 11 (ab m H) (44 : Int32) (0 : Int32) 0 0) := (ab_si hp18.1 hp18.2.1).trans ha18
                have hb19 : ps_pot m (mu_si (mu_si H17 80 8 (((mu_i H 80 8) + ((2 : Int32) + (1 : Int32))) + (1 : Int32))) 80 6 (5 : Int32)) + ps_mp (mu_i (mu_si H17 80 8 (((mu_i H 80 8) + ((2 : Int32) + (1 : Int32))) + (1 : Int32))) 80 6) = ps_pot m (mu_si H17 80 8 (((mu_i H 80 8) + ((2 : Int32) + (1 : Int32))) + (1 : Int32))) + 0 := ps_pot6 hp18 (5 : Int32)
                have hc19 : ps_mp (mu_i (mu_si H17 80 8 (((mu_i H 80 8) + ((2 : Int32) + (1 : Int32))) + (1 : Int32))) 80 6) = ps_mp (mu_i H 80 6) := congrArg ps_mp (show mu_i (mu_si H17 80 8 (((mu_i H 80 8) + ((2 : Int32) + (1 : Int32))) + (1 : Int32))) 80 6 = (mu_i H 80 6) from (qi17 6))
                have hs19 : gi_sz (mu_si (mu_si H17 80 8 (((mu_i H 80 8) + ((2 : Int32) + (1 : Int32))) + (1 : Int32))) 80 6 (5 : Int32)) 89 = gi_sz (mu_si H17 80 8 (((mu_i H 80 8) + ((2 : Int32) + (1 : Int32))) + (1 : Int32))) 89 := rfl
                have hi20_3 : mu_i (mu_si (mu_si H17 80 8 (((mu_i H 80 8) + ((2 : Int32) + (1 : Int32))) + (1 : Int32))) 80 6 (5 : Int32)) 80 3 = (mu_i H 80 3) := (qi17 3)
                have hi20_4 : mu_i (mu_si (mu_si H17 80 8 (((mu_i H 80 8) + ((2 : Int32) + (1 : Int32))) + (1 : Int32))) 80 6 (5 : Int32)) 80 4 = (mu_i H 80 4) := (qi17 4)
                have hi20_5 : mu_i (mu_si (mu_si H17 80 8 (((mu_i H 80 8) + ((2 : Int32) + (1 : Int32))) + (1 : Int32))) 80 6 (5 : Int32)) 80 5 = (mu_i H 80 5) := (qi17 5)
                have hi20_7 : mu_i (mu_si (mu_si H17 80 8 (((mu_i H 80 8) + ((2 : Int32) + (1 : Int32))) + (1 : Int32))) 80 6 (5 : Int32)) 80 7 = (mu_i H 80 7) := (qi17 7)
                have hi20_9 : mu_i (mu_si (mu_si H17 80 8 (((mu_i H 80 8) + ((2 : Int32) + (1 : Int32))) + (1 : Int32))) 80 6 (5 : Int32)) 80 9 = (mu_i H 80 9) := (qi17 9)
                have hi20_10 : mu_i (mu_si (mu_si H17 80 8 (((mu_i H 80 8) + ((2 : Int32) + (1 : Int32))) + (1 : Int32))) 80 6 (5 : Int32)) 80 10 = (mu_i H 80 10) := (qi17 10)
                have hi20_11 : mu_i (mu_si (mu_si H17 80 8 (((mu_i H 80 8) + ((2 : Int32) + (1 : Int32))) + (1 : Int32))) 80 6 (5 : Int32)) 80 11 = (mu_i H 80 11) := (qi17 11)
                refine mw_cV (fun _ => rfl) (show mu_is (mu_si (mu_si H17 80 8 (((mu_i H 80 8) + ((2 : Int32) + (1 : Int32))) + (1 : Int32))) 80 6 (5 : Int32)) (some 80) 7 from hp19.1.is rfl) (pb_adv (d := (d + 5)) (B := B) hp19) (fun H21 q21 => ?_)
                obtain ⟨⟨hp21, qt21, qk21, qb21, qc21⟩, qa21⟩ := q21
                have ht21 := ht19.trans qt21
                have qs21 : gi_sz H21 89 = gi_sz (mu_si (mu_si H17 80 8 (((mu_i H 80 8) + ((2 : Int32) + (1 : Int32))) + (1 : Int32))) 80 6 (5 : Int32)) 89 := qk21.2
                have ha21 : ab m H21 = (tp 11 (ab m H) (44 : Int32) (0 : Int32) 0 0) := qa21.trans (by rw [ha19])
                have qd21 := qc21 (show mu_i (mu_si (mu_si H17 80 8 (((mu_i H 80 8) + ((2 : Int32) + (1 : Int32))) + (1 : Int32))) 80 6 (5 : Int32)) 80 4 < 114 from (by rw [hi20_4]; exact (show (mu_i H 80 4) < 114 from (by rw [h14]; decide))))
                refine mw_go mu_g145 (k := 1) (f1 := (178, [(1, .inl ((2 : Int32) + (1 : Int32))), (0, .inr (.inr (some 80)))], [.inl (1 : Int32)], H21)) (C := []) rfl trivial ?_
                exact mw_of (fun _ => mu_ret rfl (Or.inr rfl) ⟨_, H21, rfl, Or.inr ⟨rfl, hp21, ht21, by omega, (PC_c (show mu_i H21 80 6 = 5 from (qk21.1 6 (by decide))) (show mu_i H21 80 9 = nI f from (((qk21.1 9 (by decide)).trans hi20_9).trans hfr)) ha21 hy.p44 (Or.inl ⟨Or.inl rfl, rfl, rfl⟩))⟩⟩)
              · -- 144: not (mu_i H 80 4) = (64 : Int32)
                refine mw_go mu_g145 (k := 3) (f1 := (150, [(1, .inl ((2 : Int32) + (1 : Int32))), (0, .inr (.inr (some 80)))], [.inl (24 : Int32), .inl (mu_i H 80 4)], (mu_si H 80 8 ((mu_i H 80 8) + ((2 : Int32) + (1 : Int32)))))) (C := [mu_is (mu_si H 80 8 ((mu_i H 80 8) + ((2 : Int32) + (1 : Int32)))) (some 80) 7]) rfl (show mu_is (mu_si H 80 8 ((mu_i H 80 8) + ((2 : Int32) + (1 : Int32)))) (some 80) 7 from h.1.is rfl) ?_
                refine mw_if (P := (mu_i H 80 4) = (24 : Int32)) (a := 153) (b := 168) (fun _ => rfl) trivial (fun _ => ?_) (fun h22 => absurd h5 h22)
                refine mw_go mu_g145 (k := 3) (f1 := (157, [(1, .inl ((2 : Int32) + (1 : Int32))), (0, .inr (.inr (some 80)))], [.inl (0 : Int32), .inl (48 : Int32), .inr (.inr (some 80))], (mu_si H 80 8 ((mu_i H 80 8) + ((2 : Int32) + (1 : Int32)))))) (C := []) rfl trivial ?_
                have hp23 : ps m (mu_si H 80 8 ((mu_i H 80 8) + ((2 : Int32) + (1 : Int32)))) := h.si (by decide) (by decide)
                have ht23 : pt m B H (mu_si H 80 8 ((mu_i H 80 8) + ((2 : Int32) + (1 : Int32)))) := (pt.refl m B H).trans (pt.si h)
                have ha23 : ab m (mu_si H 80 8 ((mu_i H 80 8) + ((2 : Int32) + (1 : Int32)))) = (ab m H) := ab_si h.1 h.2.1
                have hb23 : ps_pot m (mu_si H 80 8 ((mu_i H 80 8) + ((2 : Int32) + (1 : Int32)))) = ps_pot m H := ps_potj h ((mu_i H 80 8) + ((2 : Int32) + (1 : Int32))) (by decide) (by decide)
                have hs23 : gi_sz (mu_si H 80 8 ((mu_i H 80 8) + ((2 : Int32) + (1 : Int32)))) 89 = gi_sz H 89 := rfl
                refine mw_cV (fun _ => rfl) (show mu_is (mu_si H 80 8 ((mu_i H 80 8) + ((2 : Int32) + (1 : Int32)))) (some 80) 7 from hp23.1.is rfl) (pb_push (d := (d + 3)) (B := B) hp23 hBB (by omega) (48 : Int32) (0 : Int32) ⟨48, by decide, rfl⟩) (fun H25 q25 => ?_)
                obtain ⟨hp25, qt25, qi25, qs25, qb25, qa25⟩ := q25
                have ht25 := ht23.trans qt25
                have ha25 : ab m H25 = (tp 11 (ab m H) (48 : Int32) (0 : Int32) 0 0) := qa25.trans (by rw [ha23])
                refine mw_go mu_g145 (k := 5) (f1 := (174, [(1, .inl ((2 : Int32) + (1 : Int32))), (0, .inr (.inr (some 80)))], [.inr (.inr (some 80))], (mu_si H25 80 6 (5 : Int32)))) (C := [mu_is H25 (some 80) 7]) rfl (show mu_is H25 (some 80) 7 from hp25.1.is rfl) ?_
                have hp26 : ps m (mu_si H25 80 6 (5 : Int32)) := hp25.si (by decide) (by decide)
                have ht26 : pt m B H (mu_si H25 80 6 (5 : Int32)) := ht25.trans (pt.si hp25)
                have ha26 : ab m (mu_si H25 80 6 (5 : Int32)) = (tp 11 (ab m H) (48 : Int32) (0 : Int32) 0 0) := (ab_si hp25.1 hp25.2.1).trans ha25
                have hb26 : ps_pot m (mu_si H25 80 6 (5 : Int32)) + ps_mp (mu_i H25 80 6) = ps_pot m H25 + 0 := ps_pot6 hp25 (5 : Int32)
                have hc26 : ps_mp (mu_i H25 80 6) = ps_mp (mu_i H 80 6) := congrArg ps_mp (show mu_i H25 80 6 = (mu_i H 80 6) from (qi25 6))
                have hs26 : gi_sz (mu_si H25 80 6 (5 : Int32)) 89 = gi_sz H25 89 := rfl
                have hi27_3 : mu_i (mu_si H25 80 6 (5 : Int32)) 80 3 = (mu_i H 80 3) := (qi25 3)
                have hi27_4 : mu_i (mu_si H25 80 6 (5 : Int32)) 80 4 = (mu_i H 80 4) := (qi25 4)
                have hi27_5 : mu_i (mu_si H25 80 6 (5 : Int32)) 80 5 = (mu_i H 80 5) := (qi25 5)
                have hi27_7 : mu_i (mu_si H25 80 6 (5 : Int32)) 80 7 = (mu_i H 80 7) := (qi25 7)
                have hi27_8 : mu_i (mu_si H25 80 6 (5 : Int32)) 80 8 = ((mu_i H 80 8) + ((2 : Int32) + (1 : Int32))) := (qi25 8)
                have hi27_9 : mu_i (mu_si H25 80 6 (5 : Int32)) 80 9 = (mu_i H 80 9) := (qi25 9)
                have hi27_10 : mu_i (mu_si H25 80 6 (5 : Int32)) 80 10 = (mu_i H 80 10) := (qi25 10)
                have hi27_11 : mu_i (mu_si H25 80 6 (5 : Int32)) 80 11 = (mu_i H 80 11) := (qi25 11)
                refine mw_cV (fun _ => rfl) (show mu_is (mu_si H25 80 6 (5 : Int32)) (some 80) 7 from hp26.1.is rfl) (pb_adv (d := (d + 5)) (B := B) hp26) (fun H28 q28 => ?_)
                obtain ⟨⟨hp28, qt28, qk28, qb28, qc28⟩, qa28⟩ := q28
                have ht28 := ht26.trans qt28
                have qs28 : gi_sz H28 89 = gi_sz (mu_si H25 80 6 (5 : Int32)) 89 := qk28.2
                have ha28 : ab m H28 = (tp 11 (ab m H) (48 : Int32) (0 : Int32) 0 0) := qa28.trans (by rw [ha26])
                have qd28 := qc28 (show mu_i (mu_si H25 80 6 (5 : Int32)) 80 4 < 114 from (by rw [hi27_4]; exact (show (mu_i H 80 4) < 114 from (by rw [h5]; decide))))
                refine mw_go mu_g145 (k := 1) (f1 := (178, [(1, .inl ((2 : Int32) + (1 : Int32))), (0, .inr (.inr (some 80)))], [.inl (1 : Int32)], H28)) (C := []) rfl trivial ?_
                exact mw_of (fun _ => mu_ret rfl (Or.inr rfl) ⟨_, H28, rfl, Or.inr ⟨rfl, hp28, ht28, by omega, (PC_c (show mu_i H28 80 6 = 5 from (qk28.1 6 (by decide))) (show mu_i H28 80 9 = nI f from (((qk28.1 9 (by decide)).trans hi27_9).trans hfr)) ha28 hy.p48 (Or.inl ⟨Or.inl rfl, rfl, rfl⟩))⟩⟩)
        · -- 58: not (mu_i H 80 4) = (24 : Int32)
          refine mw_go mu_g145 (k := 8) (f1 := (70, [(1, .inl ((2 : Int32) + (0 : Int32))), (0, .inr (.inr (some 80)))], [.inl (150 : Int32), .inl ((mu_i H 80 8) + ((2 : Int32) + (0 : Int32)))], H)) (C := [mu_is H (some 80) 7]) rfl (show mu_is H (some 80) 7 from h.1.is rfl) ?_
          refine mw_if (P := (150 : Int32) < ((mu_i H 80 8) + ((2 : Int32) + (0 : Int32)))) (a := 73) (b := 75) (fun _ => rfl) trivial (fun h29 => ?_) (fun h29 => ?_)
          · -- 73: (150 : Int32) < ((mu_i H 80 8) + ((2 : Int32) + (0 : Int32)))
            refine mw_go mu_g145 (k := 1) (f1 := (74, [(1, .inl ((2 : Int32) + (0 : Int32))), (0, .inr (.inr (some 80)))], [.inl (0 : Int32)], H)) (C := []) rfl trivial ?_
            exact mw_of (fun _ => mu_ret rfl (Or.inl rfl) ⟨_, H, rfl, Or.inl ⟨rfl, h, (pt.refl m B H), by omega⟩⟩)
          · -- 75: not (150 : Int32) < ((mu_i H 80 8) + ((2 : Int32) + (0 : Int32)))
            refine mw_go mu_g145 (k := 9) (f1 := (91, [(1, .inl ((2 : Int32) + (0 : Int32))), (0, .inr (.inr (some 80)))], [.inl (81 : Int32), .inl (mu_i H 80 4)], (mu_si H 80 8 ((mu_i H 80 8) + ((2 : Int32) + (0 : Int32)))))) (C := [mu_is H (some 80) 7, mu_is H (some 80) 7, mu_is (mu_si H 80 8 ((mu_i H 80 8) + ((2 : Int32) + (0 : Int32)))) (some 80) 7]) rfl (show (mu_is H (some 80) 7) ∧ (mu_is H (some 80) 7) ∧ (mu_is (mu_si H 80 8 ((mu_i H 80 8) + ((2 : Int32) + (0 : Int32)))) (some 80) 7) from ⟨h.1.is rfl, h.1.is rfl, h.1.is rfl⟩) ?_
            refine mw_if (P := (mu_i H 80 4) = (81 : Int32)) (a := 94) (b := 110) (fun _ => rfl) trivial (fun h30 => ?_) (fun h30 => ?_)
            · -- 94: (mu_i H 80 4) = (81 : Int32)
              refine mw_go mu_g145 (k := 3) (f1 := (98, [(1, .inl ((2 : Int32) + (0 : Int32))), (0, .inr (.inr (some 80)))], [.inl (0 : Int32), .inl (27 : Int32), .inr (.inr (some 80))], (mu_si H 80 8 ((mu_i H 80 8) + ((2 : Int32) + (0 : Int32)))))) (C := []) rfl trivial ?_
              have hp31 : ps m (mu_si H 80 8 ((mu_i H 80 8) + ((2 : Int32) + (0 : Int32)))) := h.si (by decide) (by decide)
              have ht31 : pt m B H (mu_si H 80 8 ((mu_i H 80 8) + ((2 : Int32) + (0 : Int32)))) := (pt.refl m B H).trans (pt.si h)
              have ha31 : ab m (mu_si H 80 8 ((mu_i H 80 8) + ((2 : Int32) + (0 : Int32)))) = (ab m H) := ab_si h.1 h.2.1
              have hb31 : ps_pot m (mu_si H 80 8 ((mu_i H 80 8) + ((2 : Int32) + (0 : Int32)))) = ps_pot m H := ps_potj h ((mu_i H 80 8) + ((2 : Int32) + (0 : Int32))) (by decide) (by decide)
              have hs31 : gi_sz (mu_si H 80 8 ((mu_i H 80 8) + ((2 : Int32) + (0 : Int32)))) 89 = gi_sz H 89 := rfl
              refine mw_cV (fun _ => rfl) (show mu_is (mu_si H 80 8 ((mu_i H 80 8) + ((2 : Int32) + (0 : Int32)))) (some 80) 7 from hp31.1.is rfl) (pb_push (d := (d + 3)) (B := B) hp31 hBB (by omega) (27 : Int32) (0 : Int32) ⟨27, by decide, rfl⟩) (fun H33 q33 => ?_)
              obtain ⟨hp33, qt33, qi33, qs33, qb33, qa33⟩ := q33
              have ht33 := ht31.trans qt33
              have ha33 : ab m H33 = (tp 11 (ab m H) (27 : Int32) (0 : Int32) 0 0) := qa33.trans (by rw [ha31])
              refine mw_go mu_g145 (k := 5) (f1 := (174, [(1, .inl ((2 : Int32) + (0 : Int32))), (0, .inr (.inr (some 80)))], [.inr (.inr (some 80))], (mu_si H33 80 6 (6 : Int32)))) (C := [mu_is H33 (some 80) 7]) rfl (show mu_is H33 (some 80) 7 from hp33.1.is rfl) ?_
              have hp34 : ps m (mu_si H33 80 6 (6 : Int32)) := hp33.si (by decide) (by decide)
              have ht34 : pt m B H (mu_si H33 80 6 (6 : Int32)) := ht33.trans (pt.si hp33)
              have ha34 : ab m (mu_si H33 80 6 (6 : Int32)) = (tp 11 (ab m H) (27 : Int32) (0 : Int32) 0 0) := (ab_si hp33.1 hp33.2.1).trans ha33
              have hb34 : ps_pot m (mu_si H33 80 6 (6 : Int32)) + ps_mp (mu_i H33 80 6) = ps_pot m H33 + 0 := ps_pot6 hp33 (6 : Int32)
              have hc34 : ps_mp (mu_i H33 80 6) = ps_mp (mu_i H 80 6) := congrArg ps_mp (show mu_i H33 80 6 = (mu_i H 80 6) from (qi33 6))
              have hs34 : gi_sz (mu_si H33 80 6 (6 : Int32)) 89 = gi_sz H33 89 := rfl
              have hi35_3 : mu_i (mu_si H33 80 6 (6 : Int32)) 80 3 = (mu_i H 80 3) := (qi33 3)
              have hi35_4 : mu_i (mu_si H33 80 6 (6 : Int32)) 80 4 = (mu_i H 80 4) := (qi33 4)
              have hi35_5 : mu_i (mu_si H33 80 6 (6 : Int32)) 80 5 = (mu_i H 80 5) := (qi33 5)
              have hi35_7 : mu_i (mu_si H33 80 6 (6 : Int32)) 80 7 = (mu_i H 80 7) := (qi33 7)
              have hi35_8 : mu_i (mu_si H33 80 6 (6 : Int32)) 80 8 = ((mu_i H 80 8) + ((2 : Int32) + (0 : Int32))) := (qi33 8)
              have hi35_9 : mu_i (mu_si H33 80 6 (6 : Int32)) 80 9 = (mu_i H 80 9) := (qi33 9)
              have hi35_10 : mu_i (mu_si H33 80 6 (6 : Int32)) 80 10 = (mu_i H 80 10) := (qi33 10)
              have hi35_11 : mu_i (mu_si H33 80 6 (6 : Int32)) 80 11 = (mu_i H 80 11) := (qi33 11)
              refine mw_cV (fun _ => rfl) (show mu_is (mu_si H33 80 6 (6 : Int32)) (some 80) 7 from hp34.1.is rfl) (pb_adv (d := (d + 5)) (B := B) hp34) (fun H36 q36 => ?_)
              obtain ⟨⟨hp36, qt36, qk36, qb36, qc36⟩, qa36⟩ := q36
              have ht36 := ht34.trans qt36
              have qs36 : gi_sz H36 89 = gi_sz (mu_si H33 80 6 (6 : Int32)) 89 := qk36.2
              have ha36 : ab m H36 = (tp 11 (ab m H) (27 : Int32) (0 : Int32) 0 0) := qa36.trans (by rw [ha34])
              have qd36 := qc36 (show mu_i (mu_si H33 80 6 (6 : Int32)) 80 4 < 114 from (by rw [hi35_4]; exact (show (mu_i H 80 4) < 114 from (by rw [h30]; decide))))
              refine mw_go mu_g145 (k := 1) (f1 := (178, [(1, .inl ((2 : Int32) + (0 : Int32))), (0, .inr (.inr (some 80)))], [.inl (1 : Int32)], H36)) (C := []) rfl trivial ?_
              exact mw_of (fun _ => mu_ret rfl (Or.inr rfl) ⟨_, H36, rfl, Or.inr ⟨rfl, hp36, ht36, by omega, (PC_c (show mu_i H36 80 6 = 6 from (qk36.1 6 (by decide))) (show mu_i H36 80 9 = nI f from (((qk36.1 9 (by decide)).trans hi35_9).trans hfr)) ha36 (hy.pun (q := 27) (by decide) (Or.inl rfl)) (Or.inl ⟨Or.inr rfl, rfl, rfl⟩))⟩⟩)
            · -- 110: not (mu_i H 80 4) = (81 : Int32)
              refine mw_go mu_g145 (k := 3) (f1 := (116, [(1, .inl ((2 : Int32) + (0 : Int32))), (0, .inr (.inr (some 80)))], [.inl (64 : Int32), .inl (mu_i H 80 4)], (mu_si H 80 8 ((mu_i H 80 8) + ((2 : Int32) + (0 : Int32)))))) (C := [mu_is (mu_si H 80 8 ((mu_i H 80 8) + ((2 : Int32) + (0 : Int32)))) (some 80) 7]) rfl (show mu_is (mu_si H 80 8 ((mu_i H 80 8) + ((2 : Int32) + (0 : Int32)))) (some 80) 7 from h.1.is rfl) ?_
              refine mw_if (P := (mu_i H 80 4) = (64 : Int32)) (a := 119) (b := 144) (fun _ => rfl) trivial (fun h37 => ?_) (fun h37 => ?_)
              · -- 119: (mu_i H 80 4) = (64 : Int32)
                refine mw_go mu_g145 (k := 3) (f1 := (123, [(1, .inl ((2 : Int32) + (0 : Int32))), (0, .inr (.inr (some 80)))], [.inl (0 : Int32), .inl (44 : Int32), .inr (.inr (some 80))], (mu_si H 80 8 ((mu_i H 80 8) + ((2 : Int32) + (0 : Int32)))))) (C := []) rfl trivial ?_
                have hp38 : ps m (mu_si H 80 8 ((mu_i H 80 8) + ((2 : Int32) + (0 : Int32)))) := h.si (by decide) (by decide)
                have ht38 : pt m B H (mu_si H 80 8 ((mu_i H 80 8) + ((2 : Int32) + (0 : Int32)))) := (pt.refl m B H).trans (pt.si h)
                have ha38 : ab m (mu_si H 80 8 ((mu_i H 80 8) + ((2 : Int32) + (0 : Int32)))) = (ab m H) := ab_si h.1 h.2.1
                have hb38 : ps_pot m (mu_si H 80 8 ((mu_i H 80 8) + ((2 : Int32) + (0 : Int32)))) = ps_pot m H := ps_potj h ((mu_i H 80 8) + ((2 : Int32) + (0 : Int32))) (by decide) (by decide)
                have hs38 : gi_sz (mu_si H 80 8 ((mu_i H 80 8) + ((2 : Int32) + (0 : Int32)))) 89 = gi_sz H 89 := rfl
                refine mw_cV (fun _ => rfl) (show mu_is (mu_si H 80 8 ((mu_i H 80 8) + ((2 : Int32) + (0 : Int32)))) (some 80) 7 from hp38.1.is rfl) (pb_push (d := (d + 3)) (B := B) hp38 hBB (by omega) (44 : Int32) (0 : Int32) ⟨44, by decide, rfl⟩) (fun H40 q40 => ?_)
                obtain ⟨hp40, qt40, qi40, qs40, qb40, qa40⟩ := q40
                have ht40 := ht38.trans qt40
                have ha40 : ab m H40 = (tp 11 (ab m H) (44 : Int32) (0 : Int32) 0 0) := qa40.trans (by rw [ha38])
                refine mw_go mu_g145 (k := 3) (f1 := (131, [(1, .inl ((2 : Int32) + (0 : Int32))), (0, .inr (.inr (some 80)))], [.inl (mu_i H40 80 8), .inr (.inr (some 80))], H40)) (C := [mu_is H40 (some 80) 7]) rfl (show mu_is H40 (some 80) 7 from hp40.1.is rfl) ?_
                rw [(qi40 8)]
                refine mw_go mu_g145 (k := 8) (f1 := (174, [(1, .inl ((2 : Int32) + (0 : Int32))), (0, .inr (.inr (some 80)))], [.inr (.inr (some 80))], (mu_si (mu_si H40 80 8 (((mu_i H 80 8) + ((2 : Int32) + (0 : Int32))) + (1 : Int32))) 80 6 (5 : Int32)))) (C := [mu_is H40 (some 80) 7, mu_is (mu_si H40 80 8 (((mu_i H 80 8) + ((2 : Int32) + (0 : Int32))) + (1 : Int32))) (some 80) 7]) rfl (show (mu_is H40 (some 80) 7) ∧ (mu_is (mu_si H40 80 8 (((mu_i H 80 8) + ((2 : Int32) + (0 : Int32))) + (1 : Int32))) (some 80) 7) from ⟨hp40.1.is rfl, hp40.1.is rfl⟩) ?_
                have hp41 : ps m (mu_si H40 80 8 (((mu_i H 80 8) + ((2 : Int32) + (0 : Int32))) + (1 : Int32))) := hp40.si (by decide) (by decide)
                have ht41 : pt m B H (mu_si H40 80 8 (((mu_i H 80 8) + ((2 : Int32) + (0 : Int32))) + (1 : Int32))) := ht40.trans (pt.si hp40)
                have ha41 : ab m (mu_si H40 80 8 (((mu_i H 80 8) + ((2 : Int32) + (0 : Int32))) + (1 : Int32))) = (tp 11 (ab m H) (44 : Int32) (0 : Int32) 0 0) := (ab_si hp40.1 hp40.2.1).trans ha40
                have hb41 : ps_pot m (mu_si H40 80 8 (((mu_i H 80 8) + ((2 : Int32) + (0 : Int32))) + (1 : Int32))) = ps_pot m H40 := ps_potj hp40 (((mu_i H 80 8) + ((2 : Int32) + (0 : Int32))) + (1 : Int32)) (by decide) (by decide)
                have hs41 : gi_sz (mu_si H40 80 8 (((mu_i H 80 8) + ((2 : Int32) + (0 : Int32))) + (1 : Int32))) 89 = gi_sz H40 89 := rfl
                have hp42 : ps m (mu_si (mu_si H40 80 8 (((mu_i H 80 8) + ((2 : Int32) + (0 : Int32))) + (1 : Int32))) 80 6 (5 : Int32)) := hp41.si (by decide) (by decide)
                have ht42 : pt m B H (mu_si (mu_si H40 80 8 (((mu_i H 80 8) + ((2 : Int32) + (0 : Int32))) + (1 : Int32))) 80 6 (5 : Int32)) := ht41.trans (pt.si hp41)
                have ha42 : ab m (mu_si (mu_si H40 80 8 (((mu_i H 80 8) + ((2 : Int32) + (0 : Int32))) + (1 : Int32))) 80 6 (5 : Int32)) = (tp 11 (ab m H) (44 : Int32) (0 : Int32) 0 0) := (ab_si hp41.1 hp41.2.1).trans ha41
                have hb42 : ps_pot m (mu_si (mu_si H40 80 8 (((mu_i H 80 8) + ((2 : Int32) + (0 : Int32))) + (1 : Int32))) 80 6 (5 : Int32)) + ps_mp (mu_i (mu_si H40 80 8 (((mu_i H 80 8) + ((2 : Int32) + (0 : Int32))) + (1 : Int32))) 80 6) = ps_pot m (mu_si H40 80 8 (((mu_i H 80 8) + ((2 : Int32) + (0 : Int32))) + (1 : Int32))) + 0 := ps_pot6 hp41 (5 : Int32)
                have hc42 : ps_mp (mu_i (mu_si H40 80 8 (((mu_i H 80 8) + ((2 : Int32) + (0 : Int32))) + (1 : Int32))) 80 6) = ps_mp (mu_i H 80 6) := congrArg ps_mp (show mu_i (mu_si H40 80 8 (((mu_i H 80 8) + ((2 : Int32) + (0 : Int32))) + (1 : Int32))) 80 6 = (mu_i H 80 6) from (qi40 6))
                have hs42 : gi_sz (mu_si (mu_si H40 80 8 (((mu_i H 80 8) + ((2 : Int32) + (0 : Int32))) + (1 : Int32))) 80 6 (5 : Int32)) 89 = gi_sz (mu_si H40 80 8 (((mu_i H 80 8) + ((2 : Int32) + (0 : Int32))) + (1 : Int32))) 89 := rfl
                have hi43_3 : mu_i (mu_si (mu_si H40 80 8 (((mu_i H 80 8) + ((2 : Int32) + (0 : Int32))) + (1 : Int32))) 80 6 (5 : Int32)) 80 3 = (mu_i H 80 3) := (qi40 3)
                have hi43_4 : mu_i (mu_si (mu_si H40 80 8 (((mu_i H 80 8) + ((2 : Int32) + (0 : Int32))) + (1 : Int32))) 80 6 (5 : Int32)) 80 4 = (mu_i H 80 4) := (qi40 4)
                have hi43_5 : mu_i (mu_si (mu_si H40 80 8 (((mu_i H 80 8) + ((2 : Int32) + (0 : Int32))) + (1 : Int32))) 80 6 (5 : Int32)) 80 5 = (mu_i H 80 5) := (qi40 5)
                have hi43_7 : mu_i (mu_si (mu_si H40 80 8 (((mu_i H 80 8) + ((2 : Int32) + (0 : Int32))) + (1 : Int32))) 80 6 (5 : Int32)) 80 7 = (mu_i H 80 7) := (qi40 7)
                have hi43_9 : mu_i (mu_si (mu_si H40 80 8 (((mu_i H 80 8) + ((2 : Int32) + (0 : Int32))) + (1 : Int32))) 80 6 (5 : Int32)) 80 9 = (mu_i H 80 9) := (qi40 9)
                have hi43_10 : mu_i (mu_si (mu_si H40 80 8 (((mu_i H 80 8) + ((2 : Int32) + (0 : Int32))) + (1 : Int32))) 80 6 (5 : Int32)) 80 10 = (mu_i H 80 10) := (qi40 10)
                have hi43_11 : mu_i (mu_si (mu_si H40 80 8 (((mu_i H 80 8) + ((2 : Int32) + (0 : Int32))) + (1 : Int32))) 80 6 (5 : Int32)) 80 11 = (mu_i H 80 11) := (qi40 11)
                refine mw_cV (fun _ => rfl) (show mu_is (mu_si (mu_si H40 80 8 (((mu_i H 80 8) + ((2 : Int32) + (0 : Int32))) + (1 : Int32))) 80 6 (5 : Int32)) (some 80) 7 from hp42.1.is rfl) (pb_adv (d := (d + 5)) (B := B) hp42) (fun H44 q44 => ?_)
                obtain ⟨⟨hp44, qt44, qk44, qb44, qc44⟩, qa44⟩ := q44
                have ht44 := ht42.trans qt44
                have qs44 : gi_sz H44 89 = gi_sz (mu_si (mu_si H40 80 8 (((mu_i H 80 8) + ((2 : Int32) + (0 : Int32))) + (1 : Int32))) 80 6 (5 : Int32)) 89 := qk44.2
                have ha44 : ab m H44 = (tp 11 (ab m H) (44 : Int32) (0 : Int32) 0 0) := qa44.trans (by rw [ha42])
                have qd44 := qc44 (show mu_i (mu_si (mu_si H40 80 8 (((mu_i H 80 8) + ((2 : Int32) + (0 : Int32))) + (1 : Int32))) 80 6 (5 : Int32)) 80 4 < 114 from (by rw [hi43_4]; exact (show (mu_i H 80 4) < 114 from (by rw [h37]; decide))))
                refine mw_go mu_g145 (k := 1) (f1 := (178, [(1, .inl ((2 : Int32) + (0 : Int32))), (0, .inr (.inr (some 80)))], [.inl (1 : Int32)], H44)) (C := []) rfl trivial ?_
                exact mw_of (fun _ => mu_ret rfl (Or.inr rfl) ⟨_, H44, rfl, Or.inr ⟨rfl, hp44, ht44, by omega, (PC_c (show mu_i H44 80 6 = 5 from (qk44.1 6 (by decide))) (show mu_i H44 80 9 = nI f from (((qk44.1 9 (by decide)).trans hi43_9).trans hfr)) ha44 hy.p44 (Or.inl ⟨Or.inl rfl, rfl, rfl⟩))⟩⟩)
              · -- 144: not (mu_i H 80 4) = (64 : Int32)
                refine mw_go mu_g145 (k := 3) (f1 := (150, [(1, .inl ((2 : Int32) + (0 : Int32))), (0, .inr (.inr (some 80)))], [.inl (24 : Int32), .inl (mu_i H 80 4)], (mu_si H 80 8 ((mu_i H 80 8) + ((2 : Int32) + (0 : Int32)))))) (C := [mu_is (mu_si H 80 8 ((mu_i H 80 8) + ((2 : Int32) + (0 : Int32)))) (some 80) 7]) rfl (show mu_is (mu_si H 80 8 ((mu_i H 80 8) + ((2 : Int32) + (0 : Int32)))) (some 80) 7 from h.1.is rfl) ?_
                refine mw_if (P := (mu_i H 80 4) = (24 : Int32)) (a := 153) (b := 168) (fun _ => rfl) trivial (fun h45 => absurd h45 h5) (fun _ => ?_)
                refine mw_go mu_g145 (k := 1) (f1 := (169, [(1, .inl ((2 : Int32) + (0 : Int32))), (0, .inr (.inr (some 80)))], [.inr (.inr (some 80))], (mu_si H 80 8 ((mu_i H 80 8) + ((2 : Int32) + (0 : Int32)))))) (C := []) rfl trivial ?_
                have hp46 : ps m (mu_si H 80 8 ((mu_i H 80 8) + ((2 : Int32) + (0 : Int32)))) := h.si (by decide) (by decide)
                have ht46 : pt m B H (mu_si H 80 8 ((mu_i H 80 8) + ((2 : Int32) + (0 : Int32)))) := (pt.refl m B H).trans (pt.si h)
                have ha46 : ab m (mu_si H 80 8 ((mu_i H 80 8) + ((2 : Int32) + (0 : Int32)))) = (ab m H) := ab_si h.1 h.2.1
                have hb46 : ps_pot m (mu_si H 80 8 ((mu_i H 80 8) + ((2 : Int32) + (0 : Int32)))) = ps_pot m H := ps_potj h ((mu_i H 80 8) + ((2 : Int32) + (0 : Int32))) (by decide) (by decide)
                have hs46 : gi_sz (mu_si H 80 8 ((mu_i H 80 8) + ((2 : Int32) + (0 : Int32)))) 89 = gi_sz H 89 := rfl
                refine mw_cI (fun _ => rfl) (show mu_is (mu_si H 80 8 ((mu_i H 80 8) + ((2 : Int32) + (0 : Int32)))) (some 80) 7 from hp46.1.is rfl) (pb_leaf (d := d) (B := B) hp46 hBB (by omega) (show mu_i (mu_si H 80 8 ((mu_i H 80 8) + ((2 : Int32) + (0 : Int32)))) 80 9 = nI f from hfr) (by rw [ha46]; exact hy)) (fun x48 H48 q48 => ?_)
                rcases q48 with ⟨rfl, hp48, qt48, qb48⟩ | ⟨rfl, hp48, qt48, qb48, qp48⟩
                · -- (0 : Int32)
                  have ht48 := ht46.trans qt48
                  have hc48 : ps_mp (mu_i (mu_si H 80 8 ((mu_i H 80 8) + ((2 : Int32) + (0 : Int32)))) 80 6) = ps_mp (mu_i H 80 6) := congrArg ps_mp (show mu_i (mu_si H 80 8 ((mu_i H 80 8) + ((2 : Int32) + (0 : Int32)))) 80 6 = (mu_i H 80 6) from rfl)
                  exact mw_of (fun _ => mu_ret rfl (Or.inl rfl) ⟨_, H48, rfl, Or.inl ⟨rfl, hp48, ht48, by omega⟩⟩)
                · -- (1 : Int32)
                  have ht48 := ht46.trans qt48
                  have hc48 : ps_mp (mu_i (mu_si H 80 8 ((mu_i H 80 8) + ((2 : Int32) + (0 : Int32)))) 80 6) = ps_mp (mu_i H 80 6) := congrArg ps_mp (show mu_i (mu_si H 80 8 ((mu_i H 80 8) + ((2 : Int32) + (0 : Int32)))) 80 6 = (mu_i H 80 6) from rfl)
                  exact mw_of (fun _ => mu_ret rfl (Or.inr rfl) ⟨_, H48, rfl, Or.inr ⟨rfl, hp48, ht48, by omega, qp48⟩⟩)
      · -- 44: not (mu_i H 80 6) = (5 : Int32)
        refine mw_go mu_g145 (k := 4) (f1 := (51, [(0, .inr (.inr (some 80)))], [.inl (24 : Int32), .inl (mu_i H 80 4), .inl (1 : Int32)], H)) (C := [mu_is H (some 80) 7]) rfl (show mu_is H (some 80) 7 from h.1.is rfl) ?_
        refine mw_if (P := (mu_i H 80 4) = (24 : Int32)) (a := 54) (b := 58) (fun _ => rfl) trivial (fun h49 => ?_) (fun h49 => ?_)
        · -- 54: (mu_i H 80 4) = (24 : Int32)
          refine mw_go mu_g145 (k := 9) (f1 := (70, [(1, .inl ((1 : Int32) + (1 : Int32))), (0, .inr (.inr (some 80)))], [.inl (150 : Int32), .inl ((mu_i H 80 8) + ((1 : Int32) + (1 : Int32)))], H)) (C := [mu_is H (some 80) 7]) rfl (show mu_is H (some 80) 7 from h.1.is rfl) ?_
          refine mw_if (P := (150 : Int32) < ((mu_i H 80 8) + ((1 : Int32) + (1 : Int32)))) (a := 73) (b := 75) (fun _ => rfl) trivial (fun h50 => ?_) (fun h50 => ?_)
          · -- 73: (150 : Int32) < ((mu_i H 80 8) + ((1 : Int32) + (1 : Int32)))
            refine mw_go mu_g145 (k := 1) (f1 := (74, [(1, .inl ((1 : Int32) + (1 : Int32))), (0, .inr (.inr (some 80)))], [.inl (0 : Int32)], H)) (C := []) rfl trivial ?_
            exact mw_of (fun _ => mu_ret rfl (Or.inl rfl) ⟨_, H, rfl, Or.inl ⟨rfl, h, (pt.refl m B H), by omega⟩⟩)
          · -- 75: not (150 : Int32) < ((mu_i H 80 8) + ((1 : Int32) + (1 : Int32)))
            refine mw_go mu_g145 (k := 9) (f1 := (91, [(1, .inl ((1 : Int32) + (1 : Int32))), (0, .inr (.inr (some 80)))], [.inl (81 : Int32), .inl (mu_i H 80 4)], (mu_si H 80 8 ((mu_i H 80 8) + ((1 : Int32) + (1 : Int32)))))) (C := [mu_is H (some 80) 7, mu_is H (some 80) 7, mu_is (mu_si H 80 8 ((mu_i H 80 8) + ((1 : Int32) + (1 : Int32)))) (some 80) 7]) rfl (show (mu_is H (some 80) 7) ∧ (mu_is H (some 80) 7) ∧ (mu_is (mu_si H 80 8 ((mu_i H 80 8) + ((1 : Int32) + (1 : Int32)))) (some 80) 7) from ⟨h.1.is rfl, h.1.is rfl, h.1.is rfl⟩) ?_
            refine mw_if (P := (mu_i H 80 4) = (81 : Int32)) (a := 94) (b := 110) (fun _ => rfl) trivial (fun h51 => ?_) (fun h51 => ?_)
            · -- 94: (mu_i H 80 4) = (81 : Int32)
              refine mw_go mu_g145 (k := 3) (f1 := (98, [(1, .inl ((1 : Int32) + (1 : Int32))), (0, .inr (.inr (some 80)))], [.inl (0 : Int32), .inl (27 : Int32), .inr (.inr (some 80))], (mu_si H 80 8 ((mu_i H 80 8) + ((1 : Int32) + (1 : Int32)))))) (C := []) rfl trivial ?_
              have hp52 : ps m (mu_si H 80 8 ((mu_i H 80 8) + ((1 : Int32) + (1 : Int32)))) := h.si (by decide) (by decide)
              have ht52 : pt m B H (mu_si H 80 8 ((mu_i H 80 8) + ((1 : Int32) + (1 : Int32)))) := (pt.refl m B H).trans (pt.si h)
              have ha52 : ab m (mu_si H 80 8 ((mu_i H 80 8) + ((1 : Int32) + (1 : Int32)))) = (ab m H) := ab_si h.1 h.2.1
              have hb52 : ps_pot m (mu_si H 80 8 ((mu_i H 80 8) + ((1 : Int32) + (1 : Int32)))) = ps_pot m H := ps_potj h ((mu_i H 80 8) + ((1 : Int32) + (1 : Int32))) (by decide) (by decide)
              have hs52 : gi_sz (mu_si H 80 8 ((mu_i H 80 8) + ((1 : Int32) + (1 : Int32)))) 89 = gi_sz H 89 := rfl
              refine mw_cV (fun _ => rfl) (show mu_is (mu_si H 80 8 ((mu_i H 80 8) + ((1 : Int32) + (1 : Int32)))) (some 80) 7 from hp52.1.is rfl) (pb_push (d := (d + 3)) (B := B) hp52 hBB (by omega) (27 : Int32) (0 : Int32) ⟨27, by decide, rfl⟩) (fun H54 q54 => ?_)
              obtain ⟨hp54, qt54, qi54, qs54, qb54, qa54⟩ := q54
              have ht54 := ht52.trans qt54
              have ha54 : ab m H54 = (tp 11 (ab m H) (27 : Int32) (0 : Int32) 0 0) := qa54.trans (by rw [ha52])
              refine mw_go mu_g145 (k := 5) (f1 := (174, [(1, .inl ((1 : Int32) + (1 : Int32))), (0, .inr (.inr (some 80)))], [.inr (.inr (some 80))], (mu_si H54 80 6 (6 : Int32)))) (C := [mu_is H54 (some 80) 7]) rfl (show mu_is H54 (some 80) 7 from hp54.1.is rfl) ?_
              have hp55 : ps m (mu_si H54 80 6 (6 : Int32)) := hp54.si (by decide) (by decide)
              have ht55 : pt m B H (mu_si H54 80 6 (6 : Int32)) := ht54.trans (pt.si hp54)
              have ha55 : ab m (mu_si H54 80 6 (6 : Int32)) = (tp 11 (ab m H) (27 : Int32) (0 : Int32) 0 0) := (ab_si hp54.1 hp54.2.1).trans ha54
              have hb55 : ps_pot m (mu_si H54 80 6 (6 : Int32)) + ps_mp (mu_i H54 80 6) = ps_pot m H54 + 0 := ps_pot6 hp54 (6 : Int32)
              have hc55 : ps_mp (mu_i H54 80 6) = ps_mp (mu_i H 80 6) := congrArg ps_mp (show mu_i H54 80 6 = (mu_i H 80 6) from (qi54 6))
              have hs55 : gi_sz (mu_si H54 80 6 (6 : Int32)) 89 = gi_sz H54 89 := rfl
              have hi56_3 : mu_i (mu_si H54 80 6 (6 : Int32)) 80 3 = (mu_i H 80 3) := (qi54 3)
              have hi56_4 : mu_i (mu_si H54 80 6 (6 : Int32)) 80 4 = (mu_i H 80 4) := (qi54 4)
              have hi56_5 : mu_i (mu_si H54 80 6 (6 : Int32)) 80 5 = (mu_i H 80 5) := (qi54 5)
              have hi56_7 : mu_i (mu_si H54 80 6 (6 : Int32)) 80 7 = (mu_i H 80 7) := (qi54 7)
              have hi56_8 : mu_i (mu_si H54 80 6 (6 : Int32)) 80 8 = ((mu_i H 80 8) + ((1 : Int32) + (1 : Int32))) := (qi54 8)
              have hi56_9 : mu_i (mu_si H54 80 6 (6 : Int32)) 80 9 = (mu_i H 80 9) := (qi54 9)
              have hi56_10 : mu_i (mu_si H54 80 6 (6 : Int32)) 80 10 = (mu_i H 80 10) := (qi54 10)
              have hi56_11 : mu_i (mu_si H54 80 6 (6 : Int32)) 80 11 = (mu_i H 80 11) := (qi54 11)
              refine mw_cV (fun _ => rfl) (show mu_is (mu_si H54 80 6 (6 : Int32)) (some 80) 7 from hp55.1.is rfl) (pb_adv (d := (d + 5)) (B := B) hp55) (fun H57 q57 => ?_)
              obtain ⟨⟨hp57, qt57, qk57, qb57, qc57⟩, qa57⟩ := q57
              have ht57 := ht55.trans qt57
              have qs57 : gi_sz H57 89 = gi_sz (mu_si H54 80 6 (6 : Int32)) 89 := qk57.2
              have ha57 : ab m H57 = (tp 11 (ab m H) (27 : Int32) (0 : Int32) 0 0) := qa57.trans (by rw [ha55])
              have qd57 := qc57 (show mu_i (mu_si H54 80 6 (6 : Int32)) 80 4 < 114 from (by rw [hi56_4]; exact (show (mu_i H 80 4) < 114 from (by rw [h51]; decide))))
              refine mw_go mu_g145 (k := 1) (f1 := (178, [(1, .inl ((1 : Int32) + (1 : Int32))), (0, .inr (.inr (some 80)))], [.inl (1 : Int32)], H57)) (C := []) rfl trivial ?_
              exact mw_of (fun _ => mu_ret rfl (Or.inr rfl) ⟨_, H57, rfl, Or.inr ⟨rfl, hp57, ht57, by omega, (PC_c (show mu_i H57 80 6 = 6 from (qk57.1 6 (by decide))) (show mu_i H57 80 9 = nI f from (((qk57.1 9 (by decide)).trans hi56_9).trans hfr)) ha57 (hy.pun (q := 27) (by decide) (Or.inl rfl)) (Or.inl ⟨Or.inr rfl, rfl, rfl⟩))⟩⟩)
            · -- 110: not (mu_i H 80 4) = (81 : Int32)
              refine mw_go mu_g145 (k := 3) (f1 := (116, [(1, .inl ((1 : Int32) + (1 : Int32))), (0, .inr (.inr (some 80)))], [.inl (64 : Int32), .inl (mu_i H 80 4)], (mu_si H 80 8 ((mu_i H 80 8) + ((1 : Int32) + (1 : Int32)))))) (C := [mu_is (mu_si H 80 8 ((mu_i H 80 8) + ((1 : Int32) + (1 : Int32)))) (some 80) 7]) rfl (show mu_is (mu_si H 80 8 ((mu_i H 80 8) + ((1 : Int32) + (1 : Int32)))) (some 80) 7 from h.1.is rfl) ?_
              refine mw_if (P := (mu_i H 80 4) = (64 : Int32)) (a := 119) (b := 144) (fun _ => rfl) trivial (fun h58 => ?_) (fun h58 => ?_)
              · -- 119: (mu_i H 80 4) = (64 : Int32)
                refine mw_go mu_g145 (k := 3) (f1 := (123, [(1, .inl ((1 : Int32) + (1 : Int32))), (0, .inr (.inr (some 80)))], [.inl (0 : Int32), .inl (44 : Int32), .inr (.inr (some 80))], (mu_si H 80 8 ((mu_i H 80 8) + ((1 : Int32) + (1 : Int32)))))) (C := []) rfl trivial ?_
                have hp59 : ps m (mu_si H 80 8 ((mu_i H 80 8) + ((1 : Int32) + (1 : Int32)))) := h.si (by decide) (by decide)
                have ht59 : pt m B H (mu_si H 80 8 ((mu_i H 80 8) + ((1 : Int32) + (1 : Int32)))) := (pt.refl m B H).trans (pt.si h)
                have ha59 : ab m (mu_si H 80 8 ((mu_i H 80 8) + ((1 : Int32) + (1 : Int32)))) = (ab m H) := ab_si h.1 h.2.1
                have hb59 : ps_pot m (mu_si H 80 8 ((mu_i H 80 8) + ((1 : Int32) + (1 : Int32)))) = ps_pot m H := ps_potj h ((mu_i H 80 8) + ((1 : Int32) + (1 : Int32))) (by decide) (by decide)
                have hs59 : gi_sz (mu_si H 80 8 ((mu_i H 80 8) + ((1 : Int32) + (1 : Int32)))) 89 = gi_sz H 89 := rfl
                refine mw_cV (fun _ => rfl) (show mu_is (mu_si H 80 8 ((mu_i H 80 8) + ((1 : Int32) + (1 : Int32)))) (some 80) 7 from hp59.1.is rfl) (pb_push (d := (d + 3)) (B := B) hp59 hBB (by omega) (44 : Int32) (0 : Int32) ⟨44, by decide, rfl⟩) (fun H61 q61 => ?_)
                obtain ⟨hp61, qt61, qi61, qs61, qb61, qa61⟩ := q61
                have ht61 := ht59.trans qt61
                have ha61 : ab m H61 = (tp 11 (ab m H) (44 : Int32) (0 : Int32) 0 0) := qa61.trans (by rw [ha59])
                refine mw_go mu_g145 (k := 3) (f1 := (131, [(1, .inl ((1 : Int32) + (1 : Int32))), (0, .inr (.inr (some 80)))], [.inl (mu_i H61 80 8), .inr (.inr (some 80))], H61)) (C := [mu_is H61 (some 80) 7]) rfl (show mu_is H61 (some 80) 7 from hp61.1.is rfl) ?_
                rw [(qi61 8)]
                refine mw_go mu_g145 (k := 8) (f1 := (174, [(1, .inl ((1 : Int32) + (1 : Int32))), (0, .inr (.inr (some 80)))], [.inr (.inr (some 80))], (mu_si (mu_si H61 80 8 (((mu_i H 80 8) + ((1 : Int32) + (1 : Int32))) + (1 : Int32))) 80 6 (5 : Int32)))) (C := [mu_is H61 (some 80) 7, mu_is (mu_si H61 80 8 (((mu_i H 80 8) + ((1 : Int32) + (1 : Int32))) + (1 : Int32))) (some 80) 7]) rfl (show (mu_is H61 (some 80) 7) ∧ (mu_is (mu_si H61 80 8 (((mu_i H 80 8) + ((1 : Int32) + (1 : Int32))) + (1 : Int32))) (some 80) 7) from ⟨hp61.1.is rfl, hp61.1.is rfl⟩) ?_
                have hp62 : ps m (mu_si H61 80 8 (((mu_i H 80 8) + ((1 : Int32) + (1 : Int32))) + (1 : Int32))) := hp61.si (by decide) (by decide)
                have ht62 : pt m B H (mu_si H61 80 8 (((mu_i H 80 8) + ((1 : Int32) + (1 : Int32))) + (1 : Int32))) := ht61.trans (pt.si hp61)
                have ha62 : ab m (mu_si H61 80 8 (((mu_i H 80 8) + ((1 : Int32) + (1 : Int32))) + (1 : Int32))) = (tp 11 (ab m H) (44 : Int32) (0 : Int32) 0 0) := (ab_si hp61.1 hp61.2.1).trans ha61
                have hb62 : ps_pot m (mu_si H61 80 8 (((mu_i H 80 8) + ((1 : Int32) + (1 : Int32))) + (1 : Int32))) = ps_pot m H61 := ps_potj hp61 (((mu_i H 80 8) + ((1 : Int32) + (1 : Int32))) + (1 : Int32)) (by decide) (by decide)
                have hs62 : gi_sz (mu_si H61 80 8 (((mu_i H 80 8) + ((1 : Int32) + (1 : Int32))) + (1 : Int32))) 89 = gi_sz H61 89 := rfl
                have hp63 : ps m (mu_si (mu_si H61 80 8 (((mu_i H 80 8) + ((1 : Int32) + (1 : Int32))) + (1 : Int32))) 80 6 (5 : Int32)) := hp62.si (by decide) (by decide)
                have ht63 : pt m B H (mu_si (mu_si H61 80 8 (((mu_i H 80 8) + ((1 : Int32) + (1 : Int32))) + (1 : Int32))) 80 6 (5 : Int32)) := ht62.trans (pt.si hp62)
                have ha63 : ab m (mu_si (mu_si H61 80 8 (((mu_i H 80 8) + ((1 : Int32) + (1 : Int32))) + (1 : Int32))) 80 6 (5 : Int32)) = (tp 11 (ab m H) (44 : Int32) (0 : Int32) 0 0) := (ab_si hp62.1 hp62.2.1).trans ha62
                have hb63 : ps_pot m (mu_si (mu_si H61 80 8 (((mu_i H 80 8) + ((1 : Int32) + (1 : Int32))) + (1 : Int32))) 80 6 (5 : Int32)) + ps_mp (mu_i (mu_si H61 80 8 (((mu_i H 80 8) + ((1 : Int32) + (1 : Int32))) + (1 : Int32))) 80 6) = ps_pot m (mu_si H61 80 8 (((mu_i H 80 8) + ((1 : Int32) + (1 : Int32))) + (1 : Int32))) + 0 := ps_pot6 hp62 (5 : Int32)
                have hc63 : ps_mp (mu_i (mu_si H61 80 8 (((mu_i H 80 8) + ((1 : Int32) + (1 : Int32))) + (1 : Int32))) 80 6) = ps_mp (mu_i H 80 6) := congrArg ps_mp (show mu_i (mu_si H61 80 8 (((mu_i H 80 8) + ((1 : Int32) + (1 : Int32))) + (1 : Int32))) 80 6 = (mu_i H 80 6) from (qi61 6))
                have hs63 : gi_sz (mu_si (mu_si H61 80 8 (((mu_i H 80 8) + ((1 : Int32) + (1 : Int32))) + (1 : Int32))) 80 6 (5 : Int32)) 89 = gi_sz (mu_si H61 80 8 (((mu_i H 80 8) + ((1 : Int32) + (1 : Int32))) + (1 : Int32))) 89 := rfl
                have hi64_3 : mu_i (mu_si (mu_si H61 80 8 (((mu_i H 80 8) + ((1 : Int32) + (1 : Int32))) + (1 : Int32))) 80 6 (5 : Int32)) 80 3 = (mu_i H 80 3) := (qi61 3)
                have hi64_4 : mu_i (mu_si (mu_si H61 80 8 (((mu_i H 80 8) + ((1 : Int32) + (1 : Int32))) + (1 : Int32))) 80 6 (5 : Int32)) 80 4 = (mu_i H 80 4) := (qi61 4)
                have hi64_5 : mu_i (mu_si (mu_si H61 80 8 (((mu_i H 80 8) + ((1 : Int32) + (1 : Int32))) + (1 : Int32))) 80 6 (5 : Int32)) 80 5 = (mu_i H 80 5) := (qi61 5)
                have hi64_7 : mu_i (mu_si (mu_si H61 80 8 (((mu_i H 80 8) + ((1 : Int32) + (1 : Int32))) + (1 : Int32))) 80 6 (5 : Int32)) 80 7 = (mu_i H 80 7) := (qi61 7)
                have hi64_9 : mu_i (mu_si (mu_si H61 80 8 (((mu_i H 80 8) + ((1 : Int32) + (1 : Int32))) + (1 : Int32))) 80 6 (5 : Int32)) 80 9 = (mu_i H 80 9) := (qi61 9)
                have hi64_10 : mu_i (mu_si (mu_si H61 80 8 (((mu_i H 80 8) + ((1 : Int32) + (1 : Int32))) + (1 : Int32))) 80 6 (5 : Int32)) 80 10 = (mu_i H 80 10) := (qi61 10)
                have hi64_11 : mu_i (mu_si (mu_si H61 80 8 (((mu_i H 80 8) + ((1 : Int32) + (1 : Int32))) + (1 : Int32))) 80 6 (5 : Int32)) 80 11 = (mu_i H 80 11) := (qi61 11)
                refine mw_cV (fun _ => rfl) (show mu_is (mu_si (mu_si H61 80 8 (((mu_i H 80 8) + ((1 : Int32) + (1 : Int32))) + (1 : Int32))) 80 6 (5 : Int32)) (some 80) 7 from hp63.1.is rfl) (pb_adv (d := (d + 5)) (B := B) hp63) (fun H65 q65 => ?_)
                obtain ⟨⟨hp65, qt65, qk65, qb65, qc65⟩, qa65⟩ := q65
                have ht65 := ht63.trans qt65
                have qs65 : gi_sz H65 89 = gi_sz (mu_si (mu_si H61 80 8 (((mu_i H 80 8) + ((1 : Int32) + (1 : Int32))) + (1 : Int32))) 80 6 (5 : Int32)) 89 := qk65.2
                have ha65 : ab m H65 = (tp 11 (ab m H) (44 : Int32) (0 : Int32) 0 0) := qa65.trans (by rw [ha63])
                have qd65 := qc65 (show mu_i (mu_si (mu_si H61 80 8 (((mu_i H 80 8) + ((1 : Int32) + (1 : Int32))) + (1 : Int32))) 80 6 (5 : Int32)) 80 4 < 114 from (by rw [hi64_4]; exact (show (mu_i H 80 4) < 114 from (by rw [h58]; decide))))
                refine mw_go mu_g145 (k := 1) (f1 := (178, [(1, .inl ((1 : Int32) + (1 : Int32))), (0, .inr (.inr (some 80)))], [.inl (1 : Int32)], H65)) (C := []) rfl trivial ?_
                exact mw_of (fun _ => mu_ret rfl (Or.inr rfl) ⟨_, H65, rfl, Or.inr ⟨rfl, hp65, ht65, by omega, (PC_c (show mu_i H65 80 6 = 5 from (qk65.1 6 (by decide))) (show mu_i H65 80 9 = nI f from (((qk65.1 9 (by decide)).trans hi64_9).trans hfr)) ha65 hy.p44 (Or.inl ⟨Or.inl rfl, rfl, rfl⟩))⟩⟩)
              · -- 144: not (mu_i H 80 4) = (64 : Int32)
                refine mw_go mu_g145 (k := 3) (f1 := (150, [(1, .inl ((1 : Int32) + (1 : Int32))), (0, .inr (.inr (some 80)))], [.inl (24 : Int32), .inl (mu_i H 80 4)], (mu_si H 80 8 ((mu_i H 80 8) + ((1 : Int32) + (1 : Int32)))))) (C := [mu_is (mu_si H 80 8 ((mu_i H 80 8) + ((1 : Int32) + (1 : Int32)))) (some 80) 7]) rfl (show mu_is (mu_si H 80 8 ((mu_i H 80 8) + ((1 : Int32) + (1 : Int32)))) (some 80) 7 from h.1.is rfl) ?_
                refine mw_if (P := (mu_i H 80 4) = (24 : Int32)) (a := 153) (b := 168) (fun _ => rfl) trivial (fun _ => ?_) (fun h66 => absurd h49 h66)
                refine mw_go mu_g145 (k := 3) (f1 := (157, [(1, .inl ((1 : Int32) + (1 : Int32))), (0, .inr (.inr (some 80)))], [.inl (0 : Int32), .inl (48 : Int32), .inr (.inr (some 80))], (mu_si H 80 8 ((mu_i H 80 8) + ((1 : Int32) + (1 : Int32)))))) (C := []) rfl trivial ?_
                have hp67 : ps m (mu_si H 80 8 ((mu_i H 80 8) + ((1 : Int32) + (1 : Int32)))) := h.si (by decide) (by decide)
                have ht67 : pt m B H (mu_si H 80 8 ((mu_i H 80 8) + ((1 : Int32) + (1 : Int32)))) := (pt.refl m B H).trans (pt.si h)
                have ha67 : ab m (mu_si H 80 8 ((mu_i H 80 8) + ((1 : Int32) + (1 : Int32)))) = (ab m H) := ab_si h.1 h.2.1
                have hb67 : ps_pot m (mu_si H 80 8 ((mu_i H 80 8) + ((1 : Int32) + (1 : Int32)))) = ps_pot m H := ps_potj h ((mu_i H 80 8) + ((1 : Int32) + (1 : Int32))) (by decide) (by decide)
                have hs67 : gi_sz (mu_si H 80 8 ((mu_i H 80 8) + ((1 : Int32) + (1 : Int32)))) 89 = gi_sz H 89 := rfl
                refine mw_cV (fun _ => rfl) (show mu_is (mu_si H 80 8 ((mu_i H 80 8) + ((1 : Int32) + (1 : Int32)))) (some 80) 7 from hp67.1.is rfl) (pb_push (d := (d + 3)) (B := B) hp67 hBB (by omega) (48 : Int32) (0 : Int32) ⟨48, by decide, rfl⟩) (fun H69 q69 => ?_)
                obtain ⟨hp69, qt69, qi69, qs69, qb69, qa69⟩ := q69
                have ht69 := ht67.trans qt69
                have ha69 : ab m H69 = (tp 11 (ab m H) (48 : Int32) (0 : Int32) 0 0) := qa69.trans (by rw [ha67])
                refine mw_go mu_g145 (k := 5) (f1 := (174, [(1, .inl ((1 : Int32) + (1 : Int32))), (0, .inr (.inr (some 80)))], [.inr (.inr (some 80))], (mu_si H69 80 6 (5 : Int32)))) (C := [mu_is H69 (some 80) 7]) rfl (show mu_is H69 (some 80) 7 from hp69.1.is rfl) ?_
                have hp70 : ps m (mu_si H69 80 6 (5 : Int32)) := hp69.si (by decide) (by decide)
                have ht70 : pt m B H (mu_si H69 80 6 (5 : Int32)) := ht69.trans (pt.si hp69)
                have ha70 : ab m (mu_si H69 80 6 (5 : Int32)) = (tp 11 (ab m H) (48 : Int32) (0 : Int32) 0 0) := (ab_si hp69.1 hp69.2.1).trans ha69
                have hb70 : ps_pot m (mu_si H69 80 6 (5 : Int32)) + ps_mp (mu_i H69 80 6) = ps_pot m H69 + 0 := ps_pot6 hp69 (5 : Int32)
                have hc70 : ps_mp (mu_i H69 80 6) = ps_mp (mu_i H 80 6) := congrArg ps_mp (show mu_i H69 80 6 = (mu_i H 80 6) from (qi69 6))
                have hs70 : gi_sz (mu_si H69 80 6 (5 : Int32)) 89 = gi_sz H69 89 := rfl
                have hi71_3 : mu_i (mu_si H69 80 6 (5 : Int32)) 80 3 = (mu_i H 80 3) := (qi69 3)
                have hi71_4 : mu_i (mu_si H69 80 6 (5 : Int32)) 80 4 = (mu_i H 80 4) := (qi69 4)
                have hi71_5 : mu_i (mu_si H69 80 6 (5 : Int32)) 80 5 = (mu_i H 80 5) := (qi69 5)
                have hi71_7 : mu_i (mu_si H69 80 6 (5 : Int32)) 80 7 = (mu_i H 80 7) := (qi69 7)
                have hi71_8 : mu_i (mu_si H69 80 6 (5 : Int32)) 80 8 = ((mu_i H 80 8) + ((1 : Int32) + (1 : Int32))) := (qi69 8)
                have hi71_9 : mu_i (mu_si H69 80 6 (5 : Int32)) 80 9 = (mu_i H 80 9) := (qi69 9)
                have hi71_10 : mu_i (mu_si H69 80 6 (5 : Int32)) 80 10 = (mu_i H 80 10) := (qi69 10)
                have hi71_11 : mu_i (mu_si H69 80 6 (5 : Int32)) 80 11 = (mu_i H 80 11) := (qi69 11)
                refine mw_cV (fun _ => rfl) (show mu_is (mu_si H69 80 6 (5 : Int32)) (some 80) 7 from hp70.1.is rfl) (pb_adv (d := (d + 5)) (B := B) hp70) (fun H72 q72 => ?_)
                obtain ⟨⟨hp72, qt72, qk72, qb72, qc72⟩, qa72⟩ := q72
                have ht72 := ht70.trans qt72
                have qs72 : gi_sz H72 89 = gi_sz (mu_si H69 80 6 (5 : Int32)) 89 := qk72.2
                have ha72 : ab m H72 = (tp 11 (ab m H) (48 : Int32) (0 : Int32) 0 0) := qa72.trans (by rw [ha70])
                have qd72 := qc72 (show mu_i (mu_si H69 80 6 (5 : Int32)) 80 4 < 114 from (by rw [hi71_4]; exact (show (mu_i H 80 4) < 114 from (by rw [h49]; decide))))
                refine mw_go mu_g145 (k := 1) (f1 := (178, [(1, .inl ((1 : Int32) + (1 : Int32))), (0, .inr (.inr (some 80)))], [.inl (1 : Int32)], H72)) (C := []) rfl trivial ?_
                exact mw_of (fun _ => mu_ret rfl (Or.inr rfl) ⟨_, H72, rfl, Or.inr ⟨rfl, hp72, ht72, by omega, (PC_c (show mu_i H72 80 6 = 5 from (qk72.1 6 (by decide))) (show mu_i H72 80 9 = nI f from (((qk72.1 9 (by decide)).trans hi71_9).trans hfr)) ha72 hy.p48 (Or.inl ⟨Or.inl rfl, rfl, rfl⟩))⟩⟩)
        · -- 58: not (mu_i H 80 4) = (24 : Int32)
          refine mw_go mu_g145 (k := 8) (f1 := (70, [(1, .inl ((1 : Int32) + (0 : Int32))), (0, .inr (.inr (some 80)))], [.inl (150 : Int32), .inl ((mu_i H 80 8) + ((1 : Int32) + (0 : Int32)))], H)) (C := [mu_is H (some 80) 7]) rfl (show mu_is H (some 80) 7 from h.1.is rfl) ?_
          refine mw_if (P := (150 : Int32) < ((mu_i H 80 8) + ((1 : Int32) + (0 : Int32)))) (a := 73) (b := 75) (fun _ => rfl) trivial (fun h73 => ?_) (fun h73 => ?_)
          · -- 73: (150 : Int32) < ((mu_i H 80 8) + ((1 : Int32) + (0 : Int32)))
            refine mw_go mu_g145 (k := 1) (f1 := (74, [(1, .inl ((1 : Int32) + (0 : Int32))), (0, .inr (.inr (some 80)))], [.inl (0 : Int32)], H)) (C := []) rfl trivial ?_
            exact mw_of (fun _ => mu_ret rfl (Or.inl rfl) ⟨_, H, rfl, Or.inl ⟨rfl, h, (pt.refl m B H), by omega⟩⟩)
          · -- 75: not (150 : Int32) < ((mu_i H 80 8) + ((1 : Int32) + (0 : Int32)))
            refine mw_go mu_g145 (k := 9) (f1 := (91, [(1, .inl ((1 : Int32) + (0 : Int32))), (0, .inr (.inr (some 80)))], [.inl (81 : Int32), .inl (mu_i H 80 4)], (mu_si H 80 8 ((mu_i H 80 8) + ((1 : Int32) + (0 : Int32)))))) (C := [mu_is H (some 80) 7, mu_is H (some 80) 7, mu_is (mu_si H 80 8 ((mu_i H 80 8) + ((1 : Int32) + (0 : Int32)))) (some 80) 7]) rfl (show (mu_is H (some 80) 7) ∧ (mu_is H (some 80) 7) ∧ (mu_is (mu_si H 80 8 ((mu_i H 80 8) + ((1 : Int32) + (0 : Int32)))) (some 80) 7) from ⟨h.1.is rfl, h.1.is rfl, h.1.is rfl⟩) ?_
            refine mw_if (P := (mu_i H 80 4) = (81 : Int32)) (a := 94) (b := 110) (fun _ => rfl) trivial (fun h74 => ?_) (fun h74 => ?_)
            · -- 94: (mu_i H 80 4) = (81 : Int32)
              refine mw_go mu_g145 (k := 3) (f1 := (98, [(1, .inl ((1 : Int32) + (0 : Int32))), (0, .inr (.inr (some 80)))], [.inl (0 : Int32), .inl (27 : Int32), .inr (.inr (some 80))], (mu_si H 80 8 ((mu_i H 80 8) + ((1 : Int32) + (0 : Int32)))))) (C := []) rfl trivial ?_
              have hp75 : ps m (mu_si H 80 8 ((mu_i H 80 8) + ((1 : Int32) + (0 : Int32)))) := h.si (by decide) (by decide)
              have ht75 : pt m B H (mu_si H 80 8 ((mu_i H 80 8) + ((1 : Int32) + (0 : Int32)))) := (pt.refl m B H).trans (pt.si h)
              have ha75 : ab m (mu_si H 80 8 ((mu_i H 80 8) + ((1 : Int32) + (0 : Int32)))) = (ab m H) := ab_si h.1 h.2.1
              have hb75 : ps_pot m (mu_si H 80 8 ((mu_i H 80 8) + ((1 : Int32) + (0 : Int32)))) = ps_pot m H := ps_potj h ((mu_i H 80 8) + ((1 : Int32) + (0 : Int32))) (by decide) (by decide)
              have hs75 : gi_sz (mu_si H 80 8 ((mu_i H 80 8) + ((1 : Int32) + (0 : Int32)))) 89 = gi_sz H 89 := rfl
              refine mw_cV (fun _ => rfl) (show mu_is (mu_si H 80 8 ((mu_i H 80 8) + ((1 : Int32) + (0 : Int32)))) (some 80) 7 from hp75.1.is rfl) (pb_push (d := (d + 3)) (B := B) hp75 hBB (by omega) (27 : Int32) (0 : Int32) ⟨27, by decide, rfl⟩) (fun H77 q77 => ?_)
              obtain ⟨hp77, qt77, qi77, qs77, qb77, qa77⟩ := q77
              have ht77 := ht75.trans qt77
              have ha77 : ab m H77 = (tp 11 (ab m H) (27 : Int32) (0 : Int32) 0 0) := qa77.trans (by rw [ha75])
              refine mw_go mu_g145 (k := 5) (f1 := (174, [(1, .inl ((1 : Int32) + (0 : Int32))), (0, .inr (.inr (some 80)))], [.inr (.inr (some 80))], (mu_si H77 80 6 (6 : Int32)))) (C := [mu_is H77 (some 80) 7]) rfl (show mu_is H77 (some 80) 7 from hp77.1.is rfl) ?_
              have hp78 : ps m (mu_si H77 80 6 (6 : Int32)) := hp77.si (by decide) (by decide)
              have ht78 : pt m B H (mu_si H77 80 6 (6 : Int32)) := ht77.trans (pt.si hp77)
              have ha78 : ab m (mu_si H77 80 6 (6 : Int32)) = (tp 11 (ab m H) (27 : Int32) (0 : Int32) 0 0) := (ab_si hp77.1 hp77.2.1).trans ha77
              have hb78 : ps_pot m (mu_si H77 80 6 (6 : Int32)) + ps_mp (mu_i H77 80 6) = ps_pot m H77 + 0 := ps_pot6 hp77 (6 : Int32)
              have hc78 : ps_mp (mu_i H77 80 6) = ps_mp (mu_i H 80 6) := congrArg ps_mp (show mu_i H77 80 6 = (mu_i H 80 6) from (qi77 6))
              have hs78 : gi_sz (mu_si H77 80 6 (6 : Int32)) 89 = gi_sz H77 89 := rfl
              have hi79_3 : mu_i (mu_si H77 80 6 (6 : Int32)) 80 3 = (mu_i H 80 3) := (qi77 3)
              have hi79_4 : mu_i (mu_si H77 80 6 (6 : Int32)) 80 4 = (mu_i H 80 4) := (qi77 4)
              have hi79_5 : mu_i (mu_si H77 80 6 (6 : Int32)) 80 5 = (mu_i H 80 5) := (qi77 5)
              have hi79_7 : mu_i (mu_si H77 80 6 (6 : Int32)) 80 7 = (mu_i H 80 7) := (qi77 7)
              have hi79_8 : mu_i (mu_si H77 80 6 (6 : Int32)) 80 8 = ((mu_i H 80 8) + ((1 : Int32) + (0 : Int32))) := (qi77 8)
              have hi79_9 : mu_i (mu_si H77 80 6 (6 : Int32)) 80 9 = (mu_i H 80 9) := (qi77 9)
              have hi79_10 : mu_i (mu_si H77 80 6 (6 : Int32)) 80 10 = (mu_i H 80 10) := (qi77 10)
              have hi79_11 : mu_i (mu_si H77 80 6 (6 : Int32)) 80 11 = (mu_i H 80 11) := (qi77 11)
              refine mw_cV (fun _ => rfl) (show mu_is (mu_si H77 80 6 (6 : Int32)) (some 80) 7 from hp78.1.is rfl) (pb_adv (d := (d + 5)) (B := B) hp78) (fun H80 q80 => ?_)
              obtain ⟨⟨hp80, qt80, qk80, qb80, qc80⟩, qa80⟩ := q80
              have ht80 := ht78.trans qt80
              have qs80 : gi_sz H80 89 = gi_sz (mu_si H77 80 6 (6 : Int32)) 89 := qk80.2
              have ha80 : ab m H80 = (tp 11 (ab m H) (27 : Int32) (0 : Int32) 0 0) := qa80.trans (by rw [ha78])
              have qd80 := qc80 (show mu_i (mu_si H77 80 6 (6 : Int32)) 80 4 < 114 from (by rw [hi79_4]; exact (show (mu_i H 80 4) < 114 from (by rw [h74]; decide))))
              refine mw_go mu_g145 (k := 1) (f1 := (178, [(1, .inl ((1 : Int32) + (0 : Int32))), (0, .inr (.inr (some 80)))], [.inl (1 : Int32)], H80)) (C := []) rfl trivial ?_
              exact mw_of (fun _ => mu_ret rfl (Or.inr rfl) ⟨_, H80, rfl, Or.inr ⟨rfl, hp80, ht80, by omega, (PC_c (show mu_i H80 80 6 = 6 from (qk80.1 6 (by decide))) (show mu_i H80 80 9 = nI f from (((qk80.1 9 (by decide)).trans hi79_9).trans hfr)) ha80 (hy.pun (q := 27) (by decide) (Or.inl rfl)) (Or.inl ⟨Or.inr rfl, rfl, rfl⟩))⟩⟩)
            · -- 110: not (mu_i H 80 4) = (81 : Int32)
              refine mw_go mu_g145 (k := 3) (f1 := (116, [(1, .inl ((1 : Int32) + (0 : Int32))), (0, .inr (.inr (some 80)))], [.inl (64 : Int32), .inl (mu_i H 80 4)], (mu_si H 80 8 ((mu_i H 80 8) + ((1 : Int32) + (0 : Int32)))))) (C := [mu_is (mu_si H 80 8 ((mu_i H 80 8) + ((1 : Int32) + (0 : Int32)))) (some 80) 7]) rfl (show mu_is (mu_si H 80 8 ((mu_i H 80 8) + ((1 : Int32) + (0 : Int32)))) (some 80) 7 from h.1.is rfl) ?_
              refine mw_if (P := (mu_i H 80 4) = (64 : Int32)) (a := 119) (b := 144) (fun _ => rfl) trivial (fun h81 => ?_) (fun h81 => ?_)
              · -- 119: (mu_i H 80 4) = (64 : Int32)
                refine mw_go mu_g145 (k := 3) (f1 := (123, [(1, .inl ((1 : Int32) + (0 : Int32))), (0, .inr (.inr (some 80)))], [.inl (0 : Int32), .inl (44 : Int32), .inr (.inr (some 80))], (mu_si H 80 8 ((mu_i H 80 8) + ((1 : Int32) + (0 : Int32)))))) (C := []) rfl trivial ?_
                have hp82 : ps m (mu_si H 80 8 ((mu_i H 80 8) + ((1 : Int32) + (0 : Int32)))) := h.si (by decide) (by decide)
                have ht82 : pt m B H (mu_si H 80 8 ((mu_i H 80 8) + ((1 : Int32) + (0 : Int32)))) := (pt.refl m B H).trans (pt.si h)
                have ha82 : ab m (mu_si H 80 8 ((mu_i H 80 8) + ((1 : Int32) + (0 : Int32)))) = (ab m H) := ab_si h.1 h.2.1
                have hb82 : ps_pot m (mu_si H 80 8 ((mu_i H 80 8) + ((1 : Int32) + (0 : Int32)))) = ps_pot m H := ps_potj h ((mu_i H 80 8) + ((1 : Int32) + (0 : Int32))) (by decide) (by decide)
                have hs82 : gi_sz (mu_si H 80 8 ((mu_i H 80 8) + ((1 : Int32) + (0 : Int32)))) 89 = gi_sz H 89 := rfl
                refine mw_cV (fun _ => rfl) (show mu_is (mu_si H 80 8 ((mu_i H 80 8) + ((1 : Int32) + (0 : Int32)))) (some 80) 7 from hp82.1.is rfl) (pb_push (d := (d + 3)) (B := B) hp82 hBB (by omega) (44 : Int32) (0 : Int32) ⟨44, by decide, rfl⟩) (fun H84 q84 => ?_)
                obtain ⟨hp84, qt84, qi84, qs84, qb84, qa84⟩ := q84
                have ht84 := ht82.trans qt84
                have ha84 : ab m H84 = (tp 11 (ab m H) (44 : Int32) (0 : Int32) 0 0) := qa84.trans (by rw [ha82])
                refine mw_go mu_g145 (k := 3) (f1 := (131, [(1, .inl ((1 : Int32) + (0 : Int32))), (0, .inr (.inr (some 80)))], [.inl (mu_i H84 80 8), .inr (.inr (some 80))], H84)) (C := [mu_is H84 (some 80) 7]) rfl (show mu_is H84 (some 80) 7 from hp84.1.is rfl) ?_
                rw [(qi84 8)]
                refine mw_go mu_g145 (k := 8) (f1 := (174, [(1, .inl ((1 : Int32) + (0 : Int32))), (0, .inr (.inr (some 80)))], [.inr (.inr (some 80))], (mu_si (mu_si H84 80 8 (((mu_i H 80 8) + ((1 : Int32) + (0 : Int32))) + (1 : Int32))) 80 6 (5 : Int32)))) (C := [mu_is H84 (some 80) 7, mu_is (mu_si H84 80 8 (((mu_i H 80 8) + ((1 : Int32) + (0 : Int32))) + (1 : Int32))) (some 80) 7]) rfl (show (mu_is H84 (some 80) 7) ∧ (mu_is (mu_si H84 80 8 (((mu_i H 80 8) + ((1 : Int32) + (0 : Int32))) + (1 : Int32))) (some 80) 7) from ⟨hp84.1.is rfl, hp84.1.is rfl⟩) ?_
                have hp85 : ps m (mu_si H84 80 8 (((mu_i H 80 8) + ((1 : Int32) + (0 : Int32))) + (1 : Int32))) := hp84.si (by decide) (by decide)
                have ht85 : pt m B H (mu_si H84 80 8 (((mu_i H 80 8) + ((1 : Int32) + (0 : Int32))) + (1 : Int32))) := ht84.trans (pt.si hp84)
                have ha85 : ab m (mu_si H84 80 8 (((mu_i H 80 8) + ((1 : Int32) + (0 : Int32))) + (1 : Int32))) = (tp 11 (ab m H) (44 : Int32) (0 : Int32) 0 0) := (ab_si hp84.1 hp84.2.1).trans ha84
                have hb85 : ps_pot m (mu_si H84 80 8 (((mu_i H 80 8) + ((1 : Int32) + (0 : Int32))) + (1 : Int32))) = ps_pot m H84 := ps_potj hp84 (((mu_i H 80 8) + ((1 : Int32) + (0 : Int32))) + (1 : Int32)) (by decide) (by decide)
                have hs85 : gi_sz (mu_si H84 80 8 (((mu_i H 80 8) + ((1 : Int32) + (0 : Int32))) + (1 : Int32))) 89 = gi_sz H84 89 := rfl
                have hp86 : ps m (mu_si (mu_si H84 80 8 (((mu_i H 80 8) + ((1 : Int32) + (0 : Int32))) + (1 : Int32))) 80 6 (5 : Int32)) := hp85.si (by decide) (by decide)
                have ht86 : pt m B H (mu_si (mu_si H84 80 8 (((mu_i H 80 8) + ((1 : Int32) + (0 : Int32))) + (1 : Int32))) 80 6 (5 : Int32)) := ht85.trans (pt.si hp85)
                have ha86 : ab m (mu_si (mu_si H84 80 8 (((mu_i H 80 8) + ((1 : Int32) + (0 : Int32))) + (1 : Int32))) 80 6 (5 : Int32)) = (tp 11 (ab m H) (44 : Int32) (0 : Int32) 0 0) := (ab_si hp85.1 hp85.2.1).trans ha85
                have hb86 : ps_pot m (mu_si (mu_si H84 80 8 (((mu_i H 80 8) + ((1 : Int32) + (0 : Int32))) + (1 : Int32))) 80 6 (5 : Int32)) + ps_mp (mu_i (mu_si H84 80 8 (((mu_i H 80 8) + ((1 : Int32) + (0 : Int32))) + (1 : Int32))) 80 6) = ps_pot m (mu_si H84 80 8 (((mu_i H 80 8) + ((1 : Int32) + (0 : Int32))) + (1 : Int32))) + 0 := ps_pot6 hp85 (5 : Int32)
                have hc86 : ps_mp (mu_i (mu_si H84 80 8 (((mu_i H 80 8) + ((1 : Int32) + (0 : Int32))) + (1 : Int32))) 80 6) = ps_mp (mu_i H 80 6) := congrArg ps_mp (show mu_i (mu_si H84 80 8 (((mu_i H 80 8) + ((1 : Int32) + (0 : Int32))) + (1 : Int32))) 80 6 = (mu_i H 80 6) from (qi84 6))
                have hs86 : gi_sz (mu_si (mu_si H84 80 8 (((mu_i H 80 8) + ((1 : Int32) + (0 : Int32))) + (1 : Int32))) 80 6 (5 : Int32)) 89 = gi_sz (mu_si H84 80 8 (((mu_i H 80 8) + ((1 : Int32) + (0 : Int32))) + (1 : Int32))) 89 := rfl
                have hi87_3 : mu_i (mu_si (mu_si H84 80 8 (((mu_i H 80 8) + ((1 : Int32) + (0 : Int32))) + (1 : Int32))) 80 6 (5 : Int32)) 80 3 = (mu_i H 80 3) := (qi84 3)
                have hi87_4 : mu_i (mu_si (mu_si H84 80 8 (((mu_i H 80 8) + ((1 : Int32) + (0 : Int32))) + (1 : Int32))) 80 6 (5 : Int32)) 80 4 = (mu_i H 80 4) := (qi84 4)
                have hi87_5 : mu_i (mu_si (mu_si H84 80 8 (((mu_i H 80 8) + ((1 : Int32) + (0 : Int32))) + (1 : Int32))) 80 6 (5 : Int32)) 80 5 = (mu_i H 80 5) := (qi84 5)
                have hi87_7 : mu_i (mu_si (mu_si H84 80 8 (((mu_i H 80 8) + ((1 : Int32) + (0 : Int32))) + (1 : Int32))) 80 6 (5 : Int32)) 80 7 = (mu_i H 80 7) := (qi84 7)
                have hi87_9 : mu_i (mu_si (mu_si H84 80 8 (((mu_i H 80 8) + ((1 : Int32) + (0 : Int32))) + (1 : Int32))) 80 6 (5 : Int32)) 80 9 = (mu_i H 80 9) := (qi84 9)
                have hi87_10 : mu_i (mu_si (mu_si H84 80 8 (((mu_i H 80 8) + ((1 : Int32) + (0 : Int32))) + (1 : Int32))) 80 6 (5 : Int32)) 80 10 = (mu_i H 80 10) := (qi84 10)
                have hi87_11 : mu_i (mu_si (mu_si H84 80 8 (((mu_i H 80 8) + ((1 : Int32) + (0 : Int32))) + (1 : Int32))) 80 6 (5 : Int32)) 80 11 = (mu_i H 80 11) := (qi84 11)
                refine mw_cV (fun _ => rfl) (show mu_is (mu_si (mu_si H84 80 8 (((mu_i H 80 8) + ((1 : Int32) + (0 : Int32))) + (1 : Int32))) 80 6 (5 : Int32)) (some 80) 7 from hp86.1.is rfl) (pb_adv (d := (d + 5)) (B := B) hp86) (fun H88 q88 => ?_)
                obtain ⟨⟨hp88, qt88, qk88, qb88, qc88⟩, qa88⟩ := q88
                have ht88 := ht86.trans qt88
                have qs88 : gi_sz H88 89 = gi_sz (mu_si (mu_si H84 80 8 (((mu_i H 80 8) + ((1 : Int32) + (0 : Int32))) + (1 : Int32))) 80 6 (5 : Int32)) 89 := qk88.2
                have ha88 : ab m H88 = (tp 11 (ab m H) (44 : Int32) (0 : Int32) 0 0) := qa88.trans (by rw [ha86])
                have qd88 := qc88 (show mu_i (mu_si (mu_si H84 80 8 (((mu_i H 80 8) + ((1 : Int32) + (0 : Int32))) + (1 : Int32))) 80 6 (5 : Int32)) 80 4 < 114 from (by rw [hi87_4]; exact (show (mu_i H 80 4) < 114 from (by rw [h81]; decide))))
                refine mw_go mu_g145 (k := 1) (f1 := (178, [(1, .inl ((1 : Int32) + (0 : Int32))), (0, .inr (.inr (some 80)))], [.inl (1 : Int32)], H88)) (C := []) rfl trivial ?_
                exact mw_of (fun _ => mu_ret rfl (Or.inr rfl) ⟨_, H88, rfl, Or.inr ⟨rfl, hp88, ht88, by omega, (PC_c (show mu_i H88 80 6 = 5 from (qk88.1 6 (by decide))) (show mu_i H88 80 9 = nI f from (((qk88.1 9 (by decide)).trans hi87_9).trans hfr)) ha88 hy.p44 (Or.inl ⟨Or.inl rfl, rfl, rfl⟩))⟩⟩)
              · -- 144: not (mu_i H 80 4) = (64 : Int32)
                refine mw_go mu_g145 (k := 3) (f1 := (150, [(1, .inl ((1 : Int32) + (0 : Int32))), (0, .inr (.inr (some 80)))], [.inl (24 : Int32), .inl (mu_i H 80 4)], (mu_si H 80 8 ((mu_i H 80 8) + ((1 : Int32) + (0 : Int32)))))) (C := [mu_is (mu_si H 80 8 ((mu_i H 80 8) + ((1 : Int32) + (0 : Int32)))) (some 80) 7]) rfl (show mu_is (mu_si H 80 8 ((mu_i H 80 8) + ((1 : Int32) + (0 : Int32)))) (some 80) 7 from h.1.is rfl) ?_
                refine mw_if (P := (mu_i H 80 4) = (24 : Int32)) (a := 153) (b := 168) (fun _ => rfl) trivial (fun h89 => absurd h89 h49) (fun _ => ?_)
                refine mw_go mu_g145 (k := 1) (f1 := (169, [(1, .inl ((1 : Int32) + (0 : Int32))), (0, .inr (.inr (some 80)))], [.inr (.inr (some 80))], (mu_si H 80 8 ((mu_i H 80 8) + ((1 : Int32) + (0 : Int32)))))) (C := []) rfl trivial ?_
                have hp90 : ps m (mu_si H 80 8 ((mu_i H 80 8) + ((1 : Int32) + (0 : Int32)))) := h.si (by decide) (by decide)
                have ht90 : pt m B H (mu_si H 80 8 ((mu_i H 80 8) + ((1 : Int32) + (0 : Int32)))) := (pt.refl m B H).trans (pt.si h)
                have ha90 : ab m (mu_si H 80 8 ((mu_i H 80 8) + ((1 : Int32) + (0 : Int32)))) = (ab m H) := ab_si h.1 h.2.1
                have hb90 : ps_pot m (mu_si H 80 8 ((mu_i H 80 8) + ((1 : Int32) + (0 : Int32)))) = ps_pot m H := ps_potj h ((mu_i H 80 8) + ((1 : Int32) + (0 : Int32))) (by decide) (by decide)
                have hs90 : gi_sz (mu_si H 80 8 ((mu_i H 80 8) + ((1 : Int32) + (0 : Int32)))) 89 = gi_sz H 89 := rfl
                refine mw_cI (fun _ => rfl) (show mu_is (mu_si H 80 8 ((mu_i H 80 8) + ((1 : Int32) + (0 : Int32)))) (some 80) 7 from hp90.1.is rfl) (pb_leaf (d := d) (B := B) hp90 hBB (by omega) (show mu_i (mu_si H 80 8 ((mu_i H 80 8) + ((1 : Int32) + (0 : Int32)))) 80 9 = nI f from hfr) (by rw [ha90]; exact hy)) (fun x92 H92 q92 => ?_)
                rcases q92 with ⟨rfl, hp92, qt92, qb92⟩ | ⟨rfl, hp92, qt92, qb92, qp92⟩
                · -- (0 : Int32)
                  have ht92 := ht90.trans qt92
                  have hc92 : ps_mp (mu_i (mu_si H 80 8 ((mu_i H 80 8) + ((1 : Int32) + (0 : Int32)))) 80 6) = ps_mp (mu_i H 80 6) := congrArg ps_mp (show mu_i (mu_si H 80 8 ((mu_i H 80 8) + ((1 : Int32) + (0 : Int32)))) 80 6 = (mu_i H 80 6) from rfl)
                  exact mw_of (fun _ => mu_ret rfl (Or.inl rfl) ⟨_, H92, rfl, Or.inl ⟨rfl, hp92, ht92, by omega⟩⟩)
                · -- (1 : Int32)
                  have ht92 := ht90.trans qt92
                  have hc92 : ps_mp (mu_i (mu_si H 80 8 ((mu_i H 80 8) + ((1 : Int32) + (0 : Int32)))) 80 6) = ps_mp (mu_i H 80 6) := congrArg ps_mp (show mu_i (mu_si H 80 8 ((mu_i H 80 8) + ((1 : Int32) + (0 : Int32)))) 80 6 = (mu_i H 80 6) from rfl)
                  exact mw_of (fun _ => mu_ret rfl (Or.inr rfl) ⟨_, H92, rfl, Or.inr ⟨rfl, hp92, ht92, by omega, qp92⟩⟩)
    · -- 18: not (mu_i H 80 4) < (13 : Int32)
      refine mw_go mu_g145 (k := 3) (f1 := (24, [(0, .inr (.inr (some 80)))], [.inl (20 : Int32), .inl (mu_i H 80 4)], H)) (C := [mu_is H (some 80) 7]) rfl (show mu_is H (some 80) 7 from h.1.is rfl) ?_
      refine mw_if (P := (20 : Int32) < (mu_i H 80 4)) (a := 32) (b := 27) (fun _ => rfl) trivial (fun h93 => ?_) (fun h93 => ?_)
      · -- 32: (20 : Int32) < (mu_i H 80 4)
        refine mw_go mu_g145 (k := 3) (f1 := (37, [(0, .inr (.inr (some 80)))], [.inl (5 : Int32), .inl (mu_i H 80 6)], H)) (C := [mu_is H (some 80) 7]) rfl (show mu_is H (some 80) 7 from h.1.is rfl) ?_
        refine mw_if (P := (mu_i H 80 6) = (5 : Int32)) (a := 40) (b := 44) (fun _ => rfl) trivial (fun h94 => ?_) (fun h94 => ?_)
        · -- 40: (mu_i H 80 6) = (5 : Int32)
          refine mw_go mu_g145 (k := 5) (f1 := (51, [(0, .inr (.inr (some 80)))], [.inl (24 : Int32), .inl (mu_i H 80 4), .inl (2 : Int32)], H)) (C := [mu_is H (some 80) 7]) rfl (show mu_is H (some 80) 7 from h.1.is rfl) ?_
          refine mw_if (P := (mu_i H 80 4) = (24 : Int32)) (a := 54) (b := 58) (fun _ => rfl) trivial (fun h95 => ?_) (fun h95 => ?_)
          · -- 54: (mu_i H 80 4) = (24 : Int32)
            refine mw_go mu_g145 (k := 9) (f1 := (70, [(1, .inl ((2 : Int32) + (1 : Int32))), (0, .inr (.inr (some 80)))], [.inl (150 : Int32), .inl ((mu_i H 80 8) + ((2 : Int32) + (1 : Int32)))], H)) (C := [mu_is H (some 80) 7]) rfl (show mu_is H (some 80) 7 from h.1.is rfl) ?_
            refine mw_if (P := (150 : Int32) < ((mu_i H 80 8) + ((2 : Int32) + (1 : Int32)))) (a := 73) (b := 75) (fun _ => rfl) trivial (fun h96 => ?_) (fun h96 => ?_)
            · -- 73: (150 : Int32) < ((mu_i H 80 8) + ((2 : Int32) + (1 : Int32)))
              refine mw_go mu_g145 (k := 1) (f1 := (74, [(1, .inl ((2 : Int32) + (1 : Int32))), (0, .inr (.inr (some 80)))], [.inl (0 : Int32)], H)) (C := []) rfl trivial ?_
              exact mw_of (fun _ => mu_ret rfl (Or.inl rfl) ⟨_, H, rfl, Or.inl ⟨rfl, h, (pt.refl m B H), by omega⟩⟩)
            · -- 75: not (150 : Int32) < ((mu_i H 80 8) + ((2 : Int32) + (1 : Int32)))
              refine mw_go mu_g145 (k := 9) (f1 := (91, [(1, .inl ((2 : Int32) + (1 : Int32))), (0, .inr (.inr (some 80)))], [.inl (81 : Int32), .inl (mu_i H 80 4)], (mu_si H 80 8 ((mu_i H 80 8) + ((2 : Int32) + (1 : Int32)))))) (C := [mu_is H (some 80) 7, mu_is H (some 80) 7, mu_is (mu_si H 80 8 ((mu_i H 80 8) + ((2 : Int32) + (1 : Int32)))) (some 80) 7]) rfl (show (mu_is H (some 80) 7) ∧ (mu_is H (some 80) 7) ∧ (mu_is (mu_si H 80 8 ((mu_i H 80 8) + ((2 : Int32) + (1 : Int32)))) (some 80) 7) from ⟨h.1.is rfl, h.1.is rfl, h.1.is rfl⟩) ?_
              refine mw_if (P := (mu_i H 80 4) = (81 : Int32)) (a := 94) (b := 110) (fun _ => rfl) trivial (fun h97 => ?_) (fun h97 => ?_)
              · -- 94: (mu_i H 80 4) = (81 : Int32)
                refine mw_go mu_g145 (k := 3) (f1 := (98, [(1, .inl ((2 : Int32) + (1 : Int32))), (0, .inr (.inr (some 80)))], [.inl (0 : Int32), .inl (27 : Int32), .inr (.inr (some 80))], (mu_si H 80 8 ((mu_i H 80 8) + ((2 : Int32) + (1 : Int32)))))) (C := []) rfl trivial ?_
                have hp98 : ps m (mu_si H 80 8 ((mu_i H 80 8) + ((2 : Int32) + (1 : Int32)))) := h.si (by decide) (by decide)
                have ht98 : pt m B H (mu_si H 80 8 ((mu_i H 80 8) + ((2 : Int32) + (1 : Int32)))) := (pt.refl m B H).trans (pt.si h)
                have ha98 : ab m (mu_si H 80 8 ((mu_i H 80 8) + ((2 : Int32) + (1 : Int32)))) = (ab m H) := ab_si h.1 h.2.1
                have hb98 : ps_pot m (mu_si H 80 8 ((mu_i H 80 8) + ((2 : Int32) + (1 : Int32)))) = ps_pot m H := ps_potj h ((mu_i H 80 8) + ((2 : Int32) + (1 : Int32))) (by decide) (by decide)
                have hs98 : gi_sz (mu_si H 80 8 ((mu_i H 80 8) + ((2 : Int32) + (1 : Int32)))) 89 = gi_sz H 89 := rfl
                refine mw_cV (fun _ => rfl) (show mu_is (mu_si H 80 8 ((mu_i H 80 8) + ((2 : Int32) + (1 : Int32)))) (some 80) 7 from hp98.1.is rfl) (pb_push (d := (d + 3)) (B := B) hp98 hBB (by omega) (27 : Int32) (0 : Int32) ⟨27, by decide, rfl⟩) (fun H100 q100 => ?_)
                obtain ⟨hp100, qt100, qi100, qs100, qb100, qa100⟩ := q100
                have ht100 := ht98.trans qt100
                have ha100 : ab m H100 = (tp 11 (ab m H) (27 : Int32) (0 : Int32) 0 0) := qa100.trans (by rw [ha98])
                refine mw_go mu_g145 (k := 5) (f1 := (174, [(1, .inl ((2 : Int32) + (1 : Int32))), (0, .inr (.inr (some 80)))], [.inr (.inr (some 80))], (mu_si H100 80 6 (6 : Int32)))) (C := [mu_is H100 (some 80) 7]) rfl (show mu_is H100 (some 80) 7 from hp100.1.is rfl) ?_
                have hp101 : ps m (mu_si H100 80 6 (6 : Int32)) := hp100.si (by decide) (by decide)
                have ht101 : pt m B H (mu_si H100 80 6 (6 : Int32)) := ht100.trans (pt.si hp100)
                have ha101 : ab m (mu_si H100 80 6 (6 : Int32)) = (tp 11 (ab m H) (27 : Int32) (0 : Int32) 0 0) := (ab_si hp100.1 hp100.2.1).trans ha100
                have hb101 : ps_pot m (mu_si H100 80 6 (6 : Int32)) + ps_mp (mu_i H100 80 6) = ps_pot m H100 + 0 := ps_pot6 hp100 (6 : Int32)
                have hc101 : ps_mp (mu_i H100 80 6) = ps_mp (mu_i H 80 6) := congrArg ps_mp (show mu_i H100 80 6 = (mu_i H 80 6) from (qi100 6))
                have hs101 : gi_sz (mu_si H100 80 6 (6 : Int32)) 89 = gi_sz H100 89 := rfl
                have hi102_3 : mu_i (mu_si H100 80 6 (6 : Int32)) 80 3 = (mu_i H 80 3) := (qi100 3)
                have hi102_4 : mu_i (mu_si H100 80 6 (6 : Int32)) 80 4 = (mu_i H 80 4) := (qi100 4)
                have hi102_5 : mu_i (mu_si H100 80 6 (6 : Int32)) 80 5 = (mu_i H 80 5) := (qi100 5)
                have hi102_7 : mu_i (mu_si H100 80 6 (6 : Int32)) 80 7 = (mu_i H 80 7) := (qi100 7)
                have hi102_8 : mu_i (mu_si H100 80 6 (6 : Int32)) 80 8 = ((mu_i H 80 8) + ((2 : Int32) + (1 : Int32))) := (qi100 8)
                have hi102_9 : mu_i (mu_si H100 80 6 (6 : Int32)) 80 9 = (mu_i H 80 9) := (qi100 9)
                have hi102_10 : mu_i (mu_si H100 80 6 (6 : Int32)) 80 10 = (mu_i H 80 10) := (qi100 10)
                have hi102_11 : mu_i (mu_si H100 80 6 (6 : Int32)) 80 11 = (mu_i H 80 11) := (qi100 11)
                refine mw_cV (fun _ => rfl) (show mu_is (mu_si H100 80 6 (6 : Int32)) (some 80) 7 from hp101.1.is rfl) (pb_adv (d := (d + 5)) (B := B) hp101) (fun H103 q103 => ?_)
                obtain ⟨⟨hp103, qt103, qk103, qb103, qc103⟩, qa103⟩ := q103
                have ht103 := ht101.trans qt103
                have qs103 : gi_sz H103 89 = gi_sz (mu_si H100 80 6 (6 : Int32)) 89 := qk103.2
                have ha103 : ab m H103 = (tp 11 (ab m H) (27 : Int32) (0 : Int32) 0 0) := qa103.trans (by rw [ha101])
                have qd103 := qc103 (show mu_i (mu_si H100 80 6 (6 : Int32)) 80 4 < 114 from (by rw [hi102_4]; exact (show (mu_i H 80 4) < 114 from (by rw [h97]; decide))))
                refine mw_go mu_g145 (k := 1) (f1 := (178, [(1, .inl ((2 : Int32) + (1 : Int32))), (0, .inr (.inr (some 80)))], [.inl (1 : Int32)], H103)) (C := []) rfl trivial ?_
                exact mw_of (fun _ => mu_ret rfl (Or.inr rfl) ⟨_, H103, rfl, Or.inr ⟨rfl, hp103, ht103, by omega, (PC_c (show mu_i H103 80 6 = 6 from (qk103.1 6 (by decide))) (show mu_i H103 80 9 = nI f from (((qk103.1 9 (by decide)).trans hi102_9).trans hfr)) ha103 (hy.pun (q := 27) (by decide) (Or.inl rfl)) (Or.inl ⟨Or.inr rfl, rfl, rfl⟩))⟩⟩)
              · -- 110: not (mu_i H 80 4) = (81 : Int32)
                refine mw_go mu_g145 (k := 3) (f1 := (116, [(1, .inl ((2 : Int32) + (1 : Int32))), (0, .inr (.inr (some 80)))], [.inl (64 : Int32), .inl (mu_i H 80 4)], (mu_si H 80 8 ((mu_i H 80 8) + ((2 : Int32) + (1 : Int32)))))) (C := [mu_is (mu_si H 80 8 ((mu_i H 80 8) + ((2 : Int32) + (1 : Int32)))) (some 80) 7]) rfl (show mu_is (mu_si H 80 8 ((mu_i H 80 8) + ((2 : Int32) + (1 : Int32)))) (some 80) 7 from h.1.is rfl) ?_
                refine mw_if (P := (mu_i H 80 4) = (64 : Int32)) (a := 119) (b := 144) (fun _ => rfl) trivial (fun h104 => ?_) (fun h104 => ?_)
                · -- 119: (mu_i H 80 4) = (64 : Int32)
                  refine mw_go mu_g145 (k := 3) (f1 := (123, [(1, .inl ((2 : Int32) + (1 : Int32))), (0, .inr (.inr (some 80)))], [.inl (0 : Int32), .inl (44 : Int32), .inr (.inr (some 80))], (mu_si H 80 8 ((mu_i H 80 8) + ((2 : Int32) + (1 : Int32)))))) (C := []) rfl trivial ?_
                  have hp105 : ps m (mu_si H 80 8 ((mu_i H 80 8) + ((2 : Int32) + (1 : Int32)))) := h.si (by decide) (by decide)
                  have ht105 : pt m B H (mu_si H 80 8 ((mu_i H 80 8) + ((2 : Int32) + (1 : Int32)))) := (pt.refl m B H).trans (pt.si h)
                  have ha105 : ab m (mu_si H 80 8 ((mu_i H 80 8) + ((2 : Int32) + (1 : Int32)))) = (ab m H) := ab_si h.1 h.2.1
                  have hb105 : ps_pot m (mu_si H 80 8 ((mu_i H 80 8) + ((2 : Int32) + (1 : Int32)))) = ps_pot m H := ps_potj h ((mu_i H 80 8) + ((2 : Int32) + (1 : Int32))) (by decide) (by decide)
                  have hs105 : gi_sz (mu_si H 80 8 ((mu_i H 80 8) + ((2 : Int32) + (1 : Int32)))) 89 = gi_sz H 89 := rfl
                  refine mw_cV (fun _ => rfl) (show mu_is (mu_si H 80 8 ((mu_i H 80 8) + ((2 : Int32) + (1 : Int32)))) (some 80) 7 from hp105.1.is rfl) (pb_push (d := (d + 3)) (B := B) hp105 hBB (by omega) (44 : Int32) (0 : Int32) ⟨44, by decide, rfl⟩) (fun H107 q107 => ?_)
                  obtain ⟨hp107, qt107, qi107, qs107, qb107, qa107⟩ := q107
                  have ht107 := ht105.trans qt107
                  have ha107 : ab m H107 = (tp 11 (ab m H) (44 : Int32) (0 : Int32) 0 0) := qa107.trans (by rw [ha105])
                  refine mw_go mu_g145 (k := 3) (f1 := (131, [(1, .inl ((2 : Int32) + (1 : Int32))), (0, .inr (.inr (some 80)))], [.inl (mu_i H107 80 8), .inr (.inr (some 80))], H107)) (C := [mu_is H107 (some 80) 7]) rfl (show mu_is H107 (some 80) 7 from hp107.1.is rfl) ?_
                  rw [(qi107 8)]
                  refine mw_go mu_g145 (k := 8) (f1 := (174, [(1, .inl ((2 : Int32) + (1 : Int32))), (0, .inr (.inr (some 80)))], [.inr (.inr (some 80))], (mu_si (mu_si H107 80 8 (((mu_i H 80 8) + ((2 : Int32) + (1 : Int32))) + (1 : Int32))) 80 6 (5 : Int32)))) (C := [mu_is H107 (some 80) 7, mu_is (mu_si H107 80 8 (((mu_i H 80 8) + ((2 : Int32) + (1 : Int32))) + (1 : Int32))) (some 80) 7]) rfl (show (mu_is H107 (some 80) 7) ∧ (mu_is (mu_si H107 80 8 (((mu_i H 80 8) + ((2 : Int32) + (1 : Int32))) + (1 : Int32))) (some 80) 7) from ⟨hp107.1.is rfl, hp107.1.is rfl⟩) ?_
                  have hp108 : ps m (mu_si H107 80 8 (((mu_i H 80 8) + ((2 : Int32) + (1 : Int32))) + (1 : Int32))) := hp107.si (by decide) (by decide)
                  have ht108 : pt m B H (mu_si H107 80 8 (((mu_i H 80 8) + ((2 : Int32) + (1 : Int32))) + (1 : Int32))) := ht107.trans (pt.si hp107)
                  have ha108 : ab m (mu_si H107 80 8 (((mu_i H 80 8) + ((2 : Int32) + (1 : Int32))) + (1 : Int32))) = (tp 11 (ab m H) (44 : Int32) (0 : Int32) 0 0) := (ab_si hp107.1 hp107.2.1).trans ha107
                  have hb108 : ps_pot m (mu_si H107 80 8 (((mu_i H 80 8) + ((2 : Int32) + (1 : Int32))) + (1 : Int32))) = ps_pot m H107 := ps_potj hp107 (((mu_i H 80 8) + ((2 : Int32) + (1 : Int32))) + (1 : Int32)) (by decide) (by decide)
                  have hs108 : gi_sz (mu_si H107 80 8 (((mu_i H 80 8) + ((2 : Int32) + (1 : Int32))) + (1 : Int32))) 89 = gi_sz H107 89 := rfl
                  have hp109 : ps m (mu_si (mu_si H107 80 8 (((mu_i H 80 8) + ((2 : Int32) + (1 : Int32))) + (1 : Int32))) 80 6 (5 : Int32)) := hp108.si (by decide) (by decide)
                  have ht109 : pt m B H (mu_si (mu_si H107 80 8 (((mu_i H 80 8) + ((2 : Int32) + (1 : Int32))) + (1 : Int32))) 80 6 (5 : Int32)) := ht108.trans (pt.si hp108)
                  have ha109 : ab m (mu_si (mu_si H107 80 8 (((mu_i H 80 8) + ((2 : Int32) + (1 : Int32))) + (1 : Int32))) 80 6 (5 : Int32)) = (tp 11 (ab m H) (44 : Int32) (0 : Int32) 0 0) := (ab_si hp108.1 hp108.2.1).trans ha108
                  have hb109 : ps_pot m (mu_si (mu_si H107 80 8 (((mu_i H 80 8) + ((2 : Int32) + (1 : Int32))) + (1 : Int32))) 80 6 (5 : Int32)) + ps_mp (mu_i (mu_si H107 80 8 (((mu_i H 80 8) + ((2 : Int32) + (1 : Int32))) + (1 : Int32))) 80 6) = ps_pot m (mu_si H107 80 8 (((mu_i H 80 8) + ((2 : Int32) + (1 : Int32))) + (1 : Int32))) + 0 := ps_pot6 hp108 (5 : Int32)
                  have hc109 : ps_mp (mu_i (mu_si H107 80 8 (((mu_i H 80 8) + ((2 : Int32) + (1 : Int32))) + (1 : Int32))) 80 6) = ps_mp (mu_i H 80 6) := congrArg ps_mp (show mu_i (mu_si H107 80 8 (((mu_i H 80 8) + ((2 : Int32) + (1 : Int32))) + (1 : Int32))) 80 6 = (mu_i H 80 6) from (qi107 6))
                  have hs109 : gi_sz (mu_si (mu_si H107 80 8 (((mu_i H 80 8) + ((2 : Int32) + (1 : Int32))) + (1 : Int32))) 80 6 (5 : Int32)) 89 = gi_sz (mu_si H107 80 8 (((mu_i H 80 8) + ((2 : Int32) + (1 : Int32))) + (1 : Int32))) 89 := rfl
                  have hi110_3 : mu_i (mu_si (mu_si H107 80 8 (((mu_i H 80 8) + ((2 : Int32) + (1 : Int32))) + (1 : Int32))) 80 6 (5 : Int32)) 80 3 = (mu_i H 80 3) := (qi107 3)
                  have hi110_4 : mu_i (mu_si (mu_si H107 80 8 (((mu_i H 80 8) + ((2 : Int32) + (1 : Int32))) + (1 : Int32))) 80 6 (5 : Int32)) 80 4 = (mu_i H 80 4) := (qi107 4)
                  have hi110_5 : mu_i (mu_si (mu_si H107 80 8 (((mu_i H 80 8) + ((2 : Int32) + (1 : Int32))) + (1 : Int32))) 80 6 (5 : Int32)) 80 5 = (mu_i H 80 5) := (qi107 5)
                  have hi110_7 : mu_i (mu_si (mu_si H107 80 8 (((mu_i H 80 8) + ((2 : Int32) + (1 : Int32))) + (1 : Int32))) 80 6 (5 : Int32)) 80 7 = (mu_i H 80 7) := (qi107 7)
                  have hi110_9 : mu_i (mu_si (mu_si H107 80 8 (((mu_i H 80 8) + ((2 : Int32) + (1 : Int32))) + (1 : Int32))) 80 6 (5 : Int32)) 80 9 = (mu_i H 80 9) := (qi107 9)
                  have hi110_10 : mu_i (mu_si (mu_si H107 80 8 (((mu_i H 80 8) + ((2 : Int32) + (1 : Int32))) + (1 : Int32))) 80 6 (5 : Int32)) 80 10 = (mu_i H 80 10) := (qi107 10)
                  have hi110_11 : mu_i (mu_si (mu_si H107 80 8 (((mu_i H 80 8) + ((2 : Int32) + (1 : Int32))) + (1 : Int32))) 80 6 (5 : Int32)) 80 11 = (mu_i H 80 11) := (qi107 11)
                  refine mw_cV (fun _ => rfl) (show mu_is (mu_si (mu_si H107 80 8 (((mu_i H 80 8) + ((2 : Int32) + (1 : Int32))) + (1 : Int32))) 80 6 (5 : Int32)) (some 80) 7 from hp109.1.is rfl) (pb_adv (d := (d + 5)) (B := B) hp109) (fun H111 q111 => ?_)
                  obtain ⟨⟨hp111, qt111, qk111, qb111, qc111⟩, qa111⟩ := q111
                  have ht111 := ht109.trans qt111
                  have qs111 : gi_sz H111 89 = gi_sz (mu_si (mu_si H107 80 8 (((mu_i H 80 8) + ((2 : Int32) + (1 : Int32))) + (1 : Int32))) 80 6 (5 : Int32)) 89 := qk111.2
                  have ha111 : ab m H111 = (tp 11 (ab m H) (44 : Int32) (0 : Int32) 0 0) := qa111.trans (by rw [ha109])
                  have qd111 := qc111 (show mu_i (mu_si (mu_si H107 80 8 (((mu_i H 80 8) + ((2 : Int32) + (1 : Int32))) + (1 : Int32))) 80 6 (5 : Int32)) 80 4 < 114 from (by rw [hi110_4]; exact (show (mu_i H 80 4) < 114 from (by rw [h104]; decide))))
                  refine mw_go mu_g145 (k := 1) (f1 := (178, [(1, .inl ((2 : Int32) + (1 : Int32))), (0, .inr (.inr (some 80)))], [.inl (1 : Int32)], H111)) (C := []) rfl trivial ?_
                  exact mw_of (fun _ => mu_ret rfl (Or.inr rfl) ⟨_, H111, rfl, Or.inr ⟨rfl, hp111, ht111, by omega, (PC_c (show mu_i H111 80 6 = 5 from (qk111.1 6 (by decide))) (show mu_i H111 80 9 = nI f from (((qk111.1 9 (by decide)).trans hi110_9).trans hfr)) ha111 hy.p44 (Or.inl ⟨Or.inl rfl, rfl, rfl⟩))⟩⟩)
                · -- 144: not (mu_i H 80 4) = (64 : Int32)
                  refine mw_go mu_g145 (k := 3) (f1 := (150, [(1, .inl ((2 : Int32) + (1 : Int32))), (0, .inr (.inr (some 80)))], [.inl (24 : Int32), .inl (mu_i H 80 4)], (mu_si H 80 8 ((mu_i H 80 8) + ((2 : Int32) + (1 : Int32)))))) (C := [mu_is (mu_si H 80 8 ((mu_i H 80 8) + ((2 : Int32) + (1 : Int32)))) (some 80) 7]) rfl (show mu_is (mu_si H 80 8 ((mu_i H 80 8) + ((2 : Int32) + (1 : Int32)))) (some 80) 7 from h.1.is rfl) ?_
                  refine mw_if (P := (mu_i H 80 4) = (24 : Int32)) (a := 153) (b := 168) (fun _ => rfl) trivial (fun _ => ?_) (fun h112 => absurd h95 h112)
                  refine mw_go mu_g145 (k := 3) (f1 := (157, [(1, .inl ((2 : Int32) + (1 : Int32))), (0, .inr (.inr (some 80)))], [.inl (0 : Int32), .inl (48 : Int32), .inr (.inr (some 80))], (mu_si H 80 8 ((mu_i H 80 8) + ((2 : Int32) + (1 : Int32)))))) (C := []) rfl trivial ?_
                  have hp113 : ps m (mu_si H 80 8 ((mu_i H 80 8) + ((2 : Int32) + (1 : Int32)))) := h.si (by decide) (by decide)
                  have ht113 : pt m B H (mu_si H 80 8 ((mu_i H 80 8) + ((2 : Int32) + (1 : Int32)))) := (pt.refl m B H).trans (pt.si h)
                  have ha113 : ab m (mu_si H 80 8 ((mu_i H 80 8) + ((2 : Int32) + (1 : Int32)))) = (ab m H) := ab_si h.1 h.2.1
                  have hb113 : ps_pot m (mu_si H 80 8 ((mu_i H 80 8) + ((2 : Int32) + (1 : Int32)))) = ps_pot m H := ps_potj h ((mu_i H 80 8) + ((2 : Int32) + (1 : Int32))) (by decide) (by decide)
                  have hs113 : gi_sz (mu_si H 80 8 ((mu_i H 80 8) + ((2 : Int32) + (1 : Int32)))) 89 = gi_sz H 89 := rfl
                  refine mw_cV (fun _ => rfl) (show mu_is (mu_si H 80 8 ((mu_i H 80 8) + ((2 : Int32) + (1 : Int32)))) (some 80) 7 from hp113.1.is rfl) (pb_push (d := (d + 3)) (B := B) hp113 hBB (by omega) (48 : Int32) (0 : Int32) ⟨48, by decide, rfl⟩) (fun H115 q115 => ?_)
                  obtain ⟨hp115, qt115, qi115, qs115, qb115, qa115⟩ := q115
                  have ht115 := ht113.trans qt115
                  have ha115 : ab m H115 = (tp 11 (ab m H) (48 : Int32) (0 : Int32) 0 0) := qa115.trans (by rw [ha113])
                  refine mw_go mu_g145 (k := 5) (f1 := (174, [(1, .inl ((2 : Int32) + (1 : Int32))), (0, .inr (.inr (some 80)))], [.inr (.inr (some 80))], (mu_si H115 80 6 (5 : Int32)))) (C := [mu_is H115 (some 80) 7]) rfl (show mu_is H115 (some 80) 7 from hp115.1.is rfl) ?_
                  have hp116 : ps m (mu_si H115 80 6 (5 : Int32)) := hp115.si (by decide) (by decide)
                  have ht116 : pt m B H (mu_si H115 80 6 (5 : Int32)) := ht115.trans (pt.si hp115)
                  have ha116 : ab m (mu_si H115 80 6 (5 : Int32)) = (tp 11 (ab m H) (48 : Int32) (0 : Int32) 0 0) := (ab_si hp115.1 hp115.2.1).trans ha115
                  have hb116 : ps_pot m (mu_si H115 80 6 (5 : Int32)) + ps_mp (mu_i H115 80 6) = ps_pot m H115 + 0 := ps_pot6 hp115 (5 : Int32)
                  have hc116 : ps_mp (mu_i H115 80 6) = ps_mp (mu_i H 80 6) := congrArg ps_mp (show mu_i H115 80 6 = (mu_i H 80 6) from (qi115 6))
                  have hs116 : gi_sz (mu_si H115 80 6 (5 : Int32)) 89 = gi_sz H115 89 := rfl
                  have hi117_3 : mu_i (mu_si H115 80 6 (5 : Int32)) 80 3 = (mu_i H 80 3) := (qi115 3)
                  have hi117_4 : mu_i (mu_si H115 80 6 (5 : Int32)) 80 4 = (mu_i H 80 4) := (qi115 4)
                  have hi117_5 : mu_i (mu_si H115 80 6 (5 : Int32)) 80 5 = (mu_i H 80 5) := (qi115 5)
                  have hi117_7 : mu_i (mu_si H115 80 6 (5 : Int32)) 80 7 = (mu_i H 80 7) := (qi115 7)
                  have hi117_8 : mu_i (mu_si H115 80 6 (5 : Int32)) 80 8 = ((mu_i H 80 8) + ((2 : Int32) + (1 : Int32))) := (qi115 8)
                  have hi117_9 : mu_i (mu_si H115 80 6 (5 : Int32)) 80 9 = (mu_i H 80 9) := (qi115 9)
                  have hi117_10 : mu_i (mu_si H115 80 6 (5 : Int32)) 80 10 = (mu_i H 80 10) := (qi115 10)
                  have hi117_11 : mu_i (mu_si H115 80 6 (5 : Int32)) 80 11 = (mu_i H 80 11) := (qi115 11)
                  refine mw_cV (fun _ => rfl) (show mu_is (mu_si H115 80 6 (5 : Int32)) (some 80) 7 from hp116.1.is rfl) (pb_adv (d := (d + 5)) (B := B) hp116) (fun H118 q118 => ?_)
                  obtain ⟨⟨hp118, qt118, qk118, qb118, qc118⟩, qa118⟩ := q118
                  have ht118 := ht116.trans qt118
                  have qs118 : gi_sz H118 89 = gi_sz (mu_si H115 80 6 (5 : Int32)) 89 := qk118.2
                  have ha118 : ab m H118 = (tp 11 (ab m H) (48 : Int32) (0 : Int32) 0 0) := qa118.trans (by rw [ha116])
                  have qd118 := qc118 (show mu_i (mu_si H115 80 6 (5 : Int32)) 80 4 < 114 from (by rw [hi117_4]; exact (show (mu_i H 80 4) < 114 from (by rw [h95]; decide))))
                  refine mw_go mu_g145 (k := 1) (f1 := (178, [(1, .inl ((2 : Int32) + (1 : Int32))), (0, .inr (.inr (some 80)))], [.inl (1 : Int32)], H118)) (C := []) rfl trivial ?_
                  exact mw_of (fun _ => mu_ret rfl (Or.inr rfl) ⟨_, H118, rfl, Or.inr ⟨rfl, hp118, ht118, by omega, (PC_c (show mu_i H118 80 6 = 5 from (qk118.1 6 (by decide))) (show mu_i H118 80 9 = nI f from (((qk118.1 9 (by decide)).trans hi117_9).trans hfr)) ha118 hy.p48 (Or.inl ⟨Or.inl rfl, rfl, rfl⟩))⟩⟩)
          · -- 58: not (mu_i H 80 4) = (24 : Int32)
            refine mw_go mu_g145 (k := 8) (f1 := (70, [(1, .inl ((2 : Int32) + (0 : Int32))), (0, .inr (.inr (some 80)))], [.inl (150 : Int32), .inl ((mu_i H 80 8) + ((2 : Int32) + (0 : Int32)))], H)) (C := [mu_is H (some 80) 7]) rfl (show mu_is H (some 80) 7 from h.1.is rfl) ?_
            refine mw_if (P := (150 : Int32) < ((mu_i H 80 8) + ((2 : Int32) + (0 : Int32)))) (a := 73) (b := 75) (fun _ => rfl) trivial (fun h119 => ?_) (fun h119 => ?_)
            · -- 73: (150 : Int32) < ((mu_i H 80 8) + ((2 : Int32) + (0 : Int32)))
              refine mw_go mu_g145 (k := 1) (f1 := (74, [(1, .inl ((2 : Int32) + (0 : Int32))), (0, .inr (.inr (some 80)))], [.inl (0 : Int32)], H)) (C := []) rfl trivial ?_
              exact mw_of (fun _ => mu_ret rfl (Or.inl rfl) ⟨_, H, rfl, Or.inl ⟨rfl, h, (pt.refl m B H), by omega⟩⟩)
            · -- 75: not (150 : Int32) < ((mu_i H 80 8) + ((2 : Int32) + (0 : Int32)))
              refine mw_go mu_g145 (k := 9) (f1 := (91, [(1, .inl ((2 : Int32) + (0 : Int32))), (0, .inr (.inr (some 80)))], [.inl (81 : Int32), .inl (mu_i H 80 4)], (mu_si H 80 8 ((mu_i H 80 8) + ((2 : Int32) + (0 : Int32)))))) (C := [mu_is H (some 80) 7, mu_is H (some 80) 7, mu_is (mu_si H 80 8 ((mu_i H 80 8) + ((2 : Int32) + (0 : Int32)))) (some 80) 7]) rfl (show (mu_is H (some 80) 7) ∧ (mu_is H (some 80) 7) ∧ (mu_is (mu_si H 80 8 ((mu_i H 80 8) + ((2 : Int32) + (0 : Int32)))) (some 80) 7) from ⟨h.1.is rfl, h.1.is rfl, h.1.is rfl⟩) ?_
              refine mw_if (P := (mu_i H 80 4) = (81 : Int32)) (a := 94) (b := 110) (fun _ => rfl) trivial (fun h120 => ?_) (fun h120 => ?_)
              · -- 94: (mu_i H 80 4) = (81 : Int32)
                refine mw_go mu_g145 (k := 3) (f1 := (98, [(1, .inl ((2 : Int32) + (0 : Int32))), (0, .inr (.inr (some 80)))], [.inl (0 : Int32), .inl (27 : Int32), .inr (.inr (some 80))], (mu_si H 80 8 ((mu_i H 80 8) + ((2 : Int32) + (0 : Int32)))))) (C := []) rfl trivial ?_
                have hp121 : ps m (mu_si H 80 8 ((mu_i H 80 8) + ((2 : Int32) + (0 : Int32)))) := h.si (by decide) (by decide)
                have ht121 : pt m B H (mu_si H 80 8 ((mu_i H 80 8) + ((2 : Int32) + (0 : Int32)))) := (pt.refl m B H).trans (pt.si h)
                have ha121 : ab m (mu_si H 80 8 ((mu_i H 80 8) + ((2 : Int32) + (0 : Int32)))) = (ab m H) := ab_si h.1 h.2.1
                have hb121 : ps_pot m (mu_si H 80 8 ((mu_i H 80 8) + ((2 : Int32) + (0 : Int32)))) = ps_pot m H := ps_potj h ((mu_i H 80 8) + ((2 : Int32) + (0 : Int32))) (by decide) (by decide)
                have hs121 : gi_sz (mu_si H 80 8 ((mu_i H 80 8) + ((2 : Int32) + (0 : Int32)))) 89 = gi_sz H 89 := rfl
                refine mw_cV (fun _ => rfl) (show mu_is (mu_si H 80 8 ((mu_i H 80 8) + ((2 : Int32) + (0 : Int32)))) (some 80) 7 from hp121.1.is rfl) (pb_push (d := (d + 3)) (B := B) hp121 hBB (by omega) (27 : Int32) (0 : Int32) ⟨27, by decide, rfl⟩) (fun H123 q123 => ?_)
                obtain ⟨hp123, qt123, qi123, qs123, qb123, qa123⟩ := q123
                have ht123 := ht121.trans qt123
                have ha123 : ab m H123 = (tp 11 (ab m H) (27 : Int32) (0 : Int32) 0 0) := qa123.trans (by rw [ha121])
                refine mw_go mu_g145 (k := 5) (f1 := (174, [(1, .inl ((2 : Int32) + (0 : Int32))), (0, .inr (.inr (some 80)))], [.inr (.inr (some 80))], (mu_si H123 80 6 (6 : Int32)))) (C := [mu_is H123 (some 80) 7]) rfl (show mu_is H123 (some 80) 7 from hp123.1.is rfl) ?_
                have hp124 : ps m (mu_si H123 80 6 (6 : Int32)) := hp123.si (by decide) (by decide)
                have ht124 : pt m B H (mu_si H123 80 6 (6 : Int32)) := ht123.trans (pt.si hp123)
                have ha124 : ab m (mu_si H123 80 6 (6 : Int32)) = (tp 11 (ab m H) (27 : Int32) (0 : Int32) 0 0) := (ab_si hp123.1 hp123.2.1).trans ha123
                have hb124 : ps_pot m (mu_si H123 80 6 (6 : Int32)) + ps_mp (mu_i H123 80 6) = ps_pot m H123 + 0 := ps_pot6 hp123 (6 : Int32)
                have hc124 : ps_mp (mu_i H123 80 6) = ps_mp (mu_i H 80 6) := congrArg ps_mp (show mu_i H123 80 6 = (mu_i H 80 6) from (qi123 6))
                have hs124 : gi_sz (mu_si H123 80 6 (6 : Int32)) 89 = gi_sz H123 89 := rfl
                have hi125_3 : mu_i (mu_si H123 80 6 (6 : Int32)) 80 3 = (mu_i H 80 3) := (qi123 3)
                have hi125_4 : mu_i (mu_si H123 80 6 (6 : Int32)) 80 4 = (mu_i H 80 4) := (qi123 4)
                have hi125_5 : mu_i (mu_si H123 80 6 (6 : Int32)) 80 5 = (mu_i H 80 5) := (qi123 5)
                have hi125_7 : mu_i (mu_si H123 80 6 (6 : Int32)) 80 7 = (mu_i H 80 7) := (qi123 7)
                have hi125_8 : mu_i (mu_si H123 80 6 (6 : Int32)) 80 8 = ((mu_i H 80 8) + ((2 : Int32) + (0 : Int32))) := (qi123 8)
                have hi125_9 : mu_i (mu_si H123 80 6 (6 : Int32)) 80 9 = (mu_i H 80 9) := (qi123 9)
                have hi125_10 : mu_i (mu_si H123 80 6 (6 : Int32)) 80 10 = (mu_i H 80 10) := (qi123 10)
                have hi125_11 : mu_i (mu_si H123 80 6 (6 : Int32)) 80 11 = (mu_i H 80 11) := (qi123 11)
                refine mw_cV (fun _ => rfl) (show mu_is (mu_si H123 80 6 (6 : Int32)) (some 80) 7 from hp124.1.is rfl) (pb_adv (d := (d + 5)) (B := B) hp124) (fun H126 q126 => ?_)
                obtain ⟨⟨hp126, qt126, qk126, qb126, qc126⟩, qa126⟩ := q126
                have ht126 := ht124.trans qt126
                have qs126 : gi_sz H126 89 = gi_sz (mu_si H123 80 6 (6 : Int32)) 89 := qk126.2
                have ha126 : ab m H126 = (tp 11 (ab m H) (27 : Int32) (0 : Int32) 0 0) := qa126.trans (by rw [ha124])
                have qd126 := qc126 (show mu_i (mu_si H123 80 6 (6 : Int32)) 80 4 < 114 from (by rw [hi125_4]; exact (show (mu_i H 80 4) < 114 from (by rw [h120]; decide))))
                refine mw_go mu_g145 (k := 1) (f1 := (178, [(1, .inl ((2 : Int32) + (0 : Int32))), (0, .inr (.inr (some 80)))], [.inl (1 : Int32)], H126)) (C := []) rfl trivial ?_
                exact mw_of (fun _ => mu_ret rfl (Or.inr rfl) ⟨_, H126, rfl, Or.inr ⟨rfl, hp126, ht126, by omega, (PC_c (show mu_i H126 80 6 = 6 from (qk126.1 6 (by decide))) (show mu_i H126 80 9 = nI f from (((qk126.1 9 (by decide)).trans hi125_9).trans hfr)) ha126 (hy.pun (q := 27) (by decide) (Or.inl rfl)) (Or.inl ⟨Or.inr rfl, rfl, rfl⟩))⟩⟩)
              · -- 110: not (mu_i H 80 4) = (81 : Int32)
                refine mw_go mu_g145 (k := 3) (f1 := (116, [(1, .inl ((2 : Int32) + (0 : Int32))), (0, .inr (.inr (some 80)))], [.inl (64 : Int32), .inl (mu_i H 80 4)], (mu_si H 80 8 ((mu_i H 80 8) + ((2 : Int32) + (0 : Int32)))))) (C := [mu_is (mu_si H 80 8 ((mu_i H 80 8) + ((2 : Int32) + (0 : Int32)))) (some 80) 7]) rfl (show mu_is (mu_si H 80 8 ((mu_i H 80 8) + ((2 : Int32) + (0 : Int32)))) (some 80) 7 from h.1.is rfl) ?_
                refine mw_if (P := (mu_i H 80 4) = (64 : Int32)) (a := 119) (b := 144) (fun _ => rfl) trivial (fun h127 => ?_) (fun h127 => ?_)
                · -- 119: (mu_i H 80 4) = (64 : Int32)
                  refine mw_go mu_g145 (k := 3) (f1 := (123, [(1, .inl ((2 : Int32) + (0 : Int32))), (0, .inr (.inr (some 80)))], [.inl (0 : Int32), .inl (44 : Int32), .inr (.inr (some 80))], (mu_si H 80 8 ((mu_i H 80 8) + ((2 : Int32) + (0 : Int32)))))) (C := []) rfl trivial ?_
                  have hp128 : ps m (mu_si H 80 8 ((mu_i H 80 8) + ((2 : Int32) + (0 : Int32)))) := h.si (by decide) (by decide)
                  have ht128 : pt m B H (mu_si H 80 8 ((mu_i H 80 8) + ((2 : Int32) + (0 : Int32)))) := (pt.refl m B H).trans (pt.si h)
                  have ha128 : ab m (mu_si H 80 8 ((mu_i H 80 8) + ((2 : Int32) + (0 : Int32)))) = (ab m H) := ab_si h.1 h.2.1
                  have hb128 : ps_pot m (mu_si H 80 8 ((mu_i H 80 8) + ((2 : Int32) + (0 : Int32)))) = ps_pot m H := ps_potj h ((mu_i H 80 8) + ((2 : Int32) + (0 : Int32))) (by decide) (by decide)
                  have hs128 : gi_sz (mu_si H 80 8 ((mu_i H 80 8) + ((2 : Int32) + (0 : Int32)))) 89 = gi_sz H 89 := rfl
                  refine mw_cV (fun _ => rfl) (show mu_is (mu_si H 80 8 ((mu_i H 80 8) + ((2 : Int32) + (0 : Int32)))) (some 80) 7 from hp128.1.is rfl) (pb_push (d := (d + 3)) (B := B) hp128 hBB (by omega) (44 : Int32) (0 : Int32) ⟨44, by decide, rfl⟩) (fun H130 q130 => ?_)
                  obtain ⟨hp130, qt130, qi130, qs130, qb130, qa130⟩ := q130
                  have ht130 := ht128.trans qt130
                  have ha130 : ab m H130 = (tp 11 (ab m H) (44 : Int32) (0 : Int32) 0 0) := qa130.trans (by rw [ha128])
                  refine mw_go mu_g145 (k := 3) (f1 := (131, [(1, .inl ((2 : Int32) + (0 : Int32))), (0, .inr (.inr (some 80)))], [.inl (mu_i H130 80 8), .inr (.inr (some 80))], H130)) (C := [mu_is H130 (some 80) 7]) rfl (show mu_is H130 (some 80) 7 from hp130.1.is rfl) ?_
                  rw [(qi130 8)]
                  refine mw_go mu_g145 (k := 8) (f1 := (174, [(1, .inl ((2 : Int32) + (0 : Int32))), (0, .inr (.inr (some 80)))], [.inr (.inr (some 80))], (mu_si (mu_si H130 80 8 (((mu_i H 80 8) + ((2 : Int32) + (0 : Int32))) + (1 : Int32))) 80 6 (5 : Int32)))) (C := [mu_is H130 (some 80) 7, mu_is (mu_si H130 80 8 (((mu_i H 80 8) + ((2 : Int32) + (0 : Int32))) + (1 : Int32))) (some 80) 7]) rfl (show (mu_is H130 (some 80) 7) ∧ (mu_is (mu_si H130 80 8 (((mu_i H 80 8) + ((2 : Int32) + (0 : Int32))) + (1 : Int32))) (some 80) 7) from ⟨hp130.1.is rfl, hp130.1.is rfl⟩) ?_
                  have hp131 : ps m (mu_si H130 80 8 (((mu_i H 80 8) + ((2 : Int32) + (0 : Int32))) + (1 : Int32))) := hp130.si (by decide) (by decide)
                  have ht131 : pt m B H (mu_si H130 80 8 (((mu_i H 80 8) + ((2 : Int32) + (0 : Int32))) + (1 : Int32))) := ht130.trans (pt.si hp130)
                  have ha131 : ab m (mu_si H130 80 8 (((mu_i H 80 8) + ((2 : Int32) + (0 : Int32))) + (1 : Int32))) = (tp 11 (ab m H) (44 : Int32) (0 : Int32) 0 0) := (ab_si hp130.1 hp130.2.1).trans ha130
                  have hb131 : ps_pot m (mu_si H130 80 8 (((mu_i H 80 8) + ((2 : Int32) + (0 : Int32))) + (1 : Int32))) = ps_pot m H130 := ps_potj hp130 (((mu_i H 80 8) + ((2 : Int32) + (0 : Int32))) + (1 : Int32)) (by decide) (by decide)
                  have hs131 : gi_sz (mu_si H130 80 8 (((mu_i H 80 8) + ((2 : Int32) + (0 : Int32))) + (1 : Int32))) 89 = gi_sz H130 89 := rfl
                  have hp132 : ps m (mu_si (mu_si H130 80 8 (((mu_i H 80 8) + ((2 : Int32) + (0 : Int32))) + (1 : Int32))) 80 6 (5 : Int32)) := hp131.si (by decide) (by decide)
                  have ht132 : pt m B H (mu_si (mu_si H130 80 8 (((mu_i H 80 8) + ((2 : Int32) + (0 : Int32))) + (1 : Int32))) 80 6 (5 : Int32)) := ht131.trans (pt.si hp131)
                  have ha132 : ab m (mu_si (mu_si H130 80 8 (((mu_i H 80 8) + ((2 : Int32) + (0 : Int32))) + (1 : Int32))) 80 6 (5 : Int32)) = (tp 11 (ab m H) (44 : Int32) (0 : Int32) 0 0) := (ab_si hp131.1 hp131.2.1).trans ha131
                  have hb132 : ps_pot m (mu_si (mu_si H130 80 8 (((mu_i H 80 8) + ((2 : Int32) + (0 : Int32))) + (1 : Int32))) 80 6 (5 : Int32)) + ps_mp (mu_i (mu_si H130 80 8 (((mu_i H 80 8) + ((2 : Int32) + (0 : Int32))) + (1 : Int32))) 80 6) = ps_pot m (mu_si H130 80 8 (((mu_i H 80 8) + ((2 : Int32) + (0 : Int32))) + (1 : Int32))) + 0 := ps_pot6 hp131 (5 : Int32)
                  have hc132 : ps_mp (mu_i (mu_si H130 80 8 (((mu_i H 80 8) + ((2 : Int32) + (0 : Int32))) + (1 : Int32))) 80 6) = ps_mp (mu_i H 80 6) := congrArg ps_mp (show mu_i (mu_si H130 80 8 (((mu_i H 80 8) + ((2 : Int32) + (0 : Int32))) + (1 : Int32))) 80 6 = (mu_i H 80 6) from (qi130 6))
                  have hs132 : gi_sz (mu_si (mu_si H130 80 8 (((mu_i H 80 8) + ((2 : Int32) + (0 : Int32))) + (1 : Int32))) 80 6 (5 : Int32)) 89 = gi_sz (mu_si H130 80 8 (((mu_i H 80 8) + ((2 : Int32) + (0 : Int32))) + (1 : Int32))) 89 := rfl
                  have hi133_3 : mu_i (mu_si (mu_si H130 80 8 (((mu_i H 80 8) + ((2 : Int32) + (0 : Int32))) + (1 : Int32))) 80 6 (5 : Int32)) 80 3 = (mu_i H 80 3) := (qi130 3)
                  have hi133_4 : mu_i (mu_si (mu_si H130 80 8 (((mu_i H 80 8) + ((2 : Int32) + (0 : Int32))) + (1 : Int32))) 80 6 (5 : Int32)) 80 4 = (mu_i H 80 4) := (qi130 4)
                  have hi133_5 : mu_i (mu_si (mu_si H130 80 8 (((mu_i H 80 8) + ((2 : Int32) + (0 : Int32))) + (1 : Int32))) 80 6 (5 : Int32)) 80 5 = (mu_i H 80 5) := (qi130 5)
                  have hi133_7 : mu_i (mu_si (mu_si H130 80 8 (((mu_i H 80 8) + ((2 : Int32) + (0 : Int32))) + (1 : Int32))) 80 6 (5 : Int32)) 80 7 = (mu_i H 80 7) := (qi130 7)
                  have hi133_9 : mu_i (mu_si (mu_si H130 80 8 (((mu_i H 80 8) + ((2 : Int32) + (0 : Int32))) + (1 : Int32))) 80 6 (5 : Int32)) 80 9 = (mu_i H 80 9) := (qi130 9)
                  have hi133_10 : mu_i (mu_si (mu_si H130 80 8 (((mu_i H 80 8) + ((2 : Int32) + (0 : Int32))) + (1 : Int32))) 80 6 (5 : Int32)) 80 10 = (mu_i H 80 10) := (qi130 10)
                  have hi133_11 : mu_i (mu_si (mu_si H130 80 8 (((mu_i H 80 8) + ((2 : Int32) + (0 : Int32))) + (1 : Int32))) 80 6 (5 : Int32)) 80 11 = (mu_i H 80 11) := (qi130 11)
                  refine mw_cV (fun _ => rfl) (show mu_is (mu_si (mu_si H130 80 8 (((mu_i H 80 8) + ((2 : Int32) + (0 : Int32))) + (1 : Int32))) 80 6 (5 : Int32)) (some 80) 7 from hp132.1.is rfl) (pb_adv (d := (d + 5)) (B := B) hp132) (fun H134 q134 => ?_)
                  obtain ⟨⟨hp134, qt134, qk134, qb134, qc134⟩, qa134⟩ := q134
                  have ht134 := ht132.trans qt134
                  have qs134 : gi_sz H134 89 = gi_sz (mu_si (mu_si H130 80 8 (((mu_i H 80 8) + ((2 : Int32) + (0 : Int32))) + (1 : Int32))) 80 6 (5 : Int32)) 89 := qk134.2
                  have ha134 : ab m H134 = (tp 11 (ab m H) (44 : Int32) (0 : Int32) 0 0) := qa134.trans (by rw [ha132])
                  have qd134 := qc134 (show mu_i (mu_si (mu_si H130 80 8 (((mu_i H 80 8) + ((2 : Int32) + (0 : Int32))) + (1 : Int32))) 80 6 (5 : Int32)) 80 4 < 114 from (by rw [hi133_4]; exact (show (mu_i H 80 4) < 114 from (by rw [h127]; decide))))
                  refine mw_go mu_g145 (k := 1) (f1 := (178, [(1, .inl ((2 : Int32) + (0 : Int32))), (0, .inr (.inr (some 80)))], [.inl (1 : Int32)], H134)) (C := []) rfl trivial ?_
                  exact mw_of (fun _ => mu_ret rfl (Or.inr rfl) ⟨_, H134, rfl, Or.inr ⟨rfl, hp134, ht134, by omega, (PC_c (show mu_i H134 80 6 = 5 from (qk134.1 6 (by decide))) (show mu_i H134 80 9 = nI f from (((qk134.1 9 (by decide)).trans hi133_9).trans hfr)) ha134 hy.p44 (Or.inl ⟨Or.inl rfl, rfl, rfl⟩))⟩⟩)
                · -- 144: not (mu_i H 80 4) = (64 : Int32)
                  refine mw_go mu_g145 (k := 3) (f1 := (150, [(1, .inl ((2 : Int32) + (0 : Int32))), (0, .inr (.inr (some 80)))], [.inl (24 : Int32), .inl (mu_i H 80 4)], (mu_si H 80 8 ((mu_i H 80 8) + ((2 : Int32) + (0 : Int32)))))) (C := [mu_is (mu_si H 80 8 ((mu_i H 80 8) + ((2 : Int32) + (0 : Int32)))) (some 80) 7]) rfl (show mu_is (mu_si H 80 8 ((mu_i H 80 8) + ((2 : Int32) + (0 : Int32)))) (some 80) 7 from h.1.is rfl) ?_
                  refine mw_if (P := (mu_i H 80 4) = (24 : Int32)) (a := 153) (b := 168) (fun _ => rfl) trivial (fun h135 => absurd h135 h95) (fun _ => ?_)
                  refine mw_go mu_g145 (k := 1) (f1 := (169, [(1, .inl ((2 : Int32) + (0 : Int32))), (0, .inr (.inr (some 80)))], [.inr (.inr (some 80))], (mu_si H 80 8 ((mu_i H 80 8) + ((2 : Int32) + (0 : Int32)))))) (C := []) rfl trivial ?_
                  have hp136 : ps m (mu_si H 80 8 ((mu_i H 80 8) + ((2 : Int32) + (0 : Int32)))) := h.si (by decide) (by decide)
                  have ht136 : pt m B H (mu_si H 80 8 ((mu_i H 80 8) + ((2 : Int32) + (0 : Int32)))) := (pt.refl m B H).trans (pt.si h)
                  have ha136 : ab m (mu_si H 80 8 ((mu_i H 80 8) + ((2 : Int32) + (0 : Int32)))) = (ab m H) := ab_si h.1 h.2.1
                  have hb136 : ps_pot m (mu_si H 80 8 ((mu_i H 80 8) + ((2 : Int32) + (0 : Int32)))) = ps_pot m H := ps_potj h ((mu_i H 80 8) + ((2 : Int32) + (0 : Int32))) (by decide) (by decide)
                  have hs136 : gi_sz (mu_si H 80 8 ((mu_i H 80 8) + ((2 : Int32) + (0 : Int32)))) 89 = gi_sz H 89 := rfl
                  refine mw_cI (fun _ => rfl) (show mu_is (mu_si H 80 8 ((mu_i H 80 8) + ((2 : Int32) + (0 : Int32)))) (some 80) 7 from hp136.1.is rfl) (pb_leaf (d := d) (B := B) hp136 hBB (by omega) (show mu_i (mu_si H 80 8 ((mu_i H 80 8) + ((2 : Int32) + (0 : Int32)))) 80 9 = nI f from hfr) (by rw [ha136]; exact hy)) (fun x138 H138 q138 => ?_)
                  rcases q138 with ⟨rfl, hp138, qt138, qb138⟩ | ⟨rfl, hp138, qt138, qb138, qp138⟩
                  · -- (0 : Int32)
                    have ht138 := ht136.trans qt138
                    have hc138 : ps_mp (mu_i (mu_si H 80 8 ((mu_i H 80 8) + ((2 : Int32) + (0 : Int32)))) 80 6) = ps_mp (mu_i H 80 6) := congrArg ps_mp (show mu_i (mu_si H 80 8 ((mu_i H 80 8) + ((2 : Int32) + (0 : Int32)))) 80 6 = (mu_i H 80 6) from rfl)
                    exact mw_of (fun _ => mu_ret rfl (Or.inl rfl) ⟨_, H138, rfl, Or.inl ⟨rfl, hp138, ht138, by omega⟩⟩)
                  · -- (1 : Int32)
                    have ht138 := ht136.trans qt138
                    have hc138 : ps_mp (mu_i (mu_si H 80 8 ((mu_i H 80 8) + ((2 : Int32) + (0 : Int32)))) 80 6) = ps_mp (mu_i H 80 6) := congrArg ps_mp (show mu_i (mu_si H 80 8 ((mu_i H 80 8) + ((2 : Int32) + (0 : Int32)))) 80 6 = (mu_i H 80 6) from rfl)
                    exact mw_of (fun _ => mu_ret rfl (Or.inr rfl) ⟨_, H138, rfl, Or.inr ⟨rfl, hp138, ht138, by omega, qp138⟩⟩)
        · -- 44: not (mu_i H 80 6) = (5 : Int32)
          refine mw_go mu_g145 (k := 4) (f1 := (51, [(0, .inr (.inr (some 80)))], [.inl (24 : Int32), .inl (mu_i H 80 4), .inl (1 : Int32)], H)) (C := [mu_is H (some 80) 7]) rfl (show mu_is H (some 80) 7 from h.1.is rfl) ?_
          refine mw_if (P := (mu_i H 80 4) = (24 : Int32)) (a := 54) (b := 58) (fun _ => rfl) trivial (fun h139 => ?_) (fun h139 => ?_)
          · -- 54: (mu_i H 80 4) = (24 : Int32)
            refine mw_go mu_g145 (k := 9) (f1 := (70, [(1, .inl ((1 : Int32) + (1 : Int32))), (0, .inr (.inr (some 80)))], [.inl (150 : Int32), .inl ((mu_i H 80 8) + ((1 : Int32) + (1 : Int32)))], H)) (C := [mu_is H (some 80) 7]) rfl (show mu_is H (some 80) 7 from h.1.is rfl) ?_
            refine mw_if (P := (150 : Int32) < ((mu_i H 80 8) + ((1 : Int32) + (1 : Int32)))) (a := 73) (b := 75) (fun _ => rfl) trivial (fun h140 => ?_) (fun h140 => ?_)
            · -- 73: (150 : Int32) < ((mu_i H 80 8) + ((1 : Int32) + (1 : Int32)))
              refine mw_go mu_g145 (k := 1) (f1 := (74, [(1, .inl ((1 : Int32) + (1 : Int32))), (0, .inr (.inr (some 80)))], [.inl (0 : Int32)], H)) (C := []) rfl trivial ?_
              exact mw_of (fun _ => mu_ret rfl (Or.inl rfl) ⟨_, H, rfl, Or.inl ⟨rfl, h, (pt.refl m B H), by omega⟩⟩)
            · -- 75: not (150 : Int32) < ((mu_i H 80 8) + ((1 : Int32) + (1 : Int32)))
              refine mw_go mu_g145 (k := 9) (f1 := (91, [(1, .inl ((1 : Int32) + (1 : Int32))), (0, .inr (.inr (some 80)))], [.inl (81 : Int32), .inl (mu_i H 80 4)], (mu_si H 80 8 ((mu_i H 80 8) + ((1 : Int32) + (1 : Int32)))))) (C := [mu_is H (some 80) 7, mu_is H (some 80) 7, mu_is (mu_si H 80 8 ((mu_i H 80 8) + ((1 : Int32) + (1 : Int32)))) (some 80) 7]) rfl (show (mu_is H (some 80) 7) ∧ (mu_is H (some 80) 7) ∧ (mu_is (mu_si H 80 8 ((mu_i H 80 8) + ((1 : Int32) + (1 : Int32)))) (some 80) 7) from ⟨h.1.is rfl, h.1.is rfl, h.1.is rfl⟩) ?_
              refine mw_if (P := (mu_i H 80 4) = (81 : Int32)) (a := 94) (b := 110) (fun _ => rfl) trivial (fun h141 => ?_) (fun h141 => ?_)
              · -- 94: (mu_i H 80 4) = (81 : Int32)
                refine mw_go mu_g145 (k := 3) (f1 := (98, [(1, .inl ((1 : Int32) + (1 : Int32))), (0, .inr (.inr (some 80)))], [.inl (0 : Int32), .inl (27 : Int32), .inr (.inr (some 80))], (mu_si H 80 8 ((mu_i H 80 8) + ((1 : Int32) + (1 : Int32)))))) (C := []) rfl trivial ?_
                have hp142 : ps m (mu_si H 80 8 ((mu_i H 80 8) + ((1 : Int32) + (1 : Int32)))) := h.si (by decide) (by decide)
                have ht142 : pt m B H (mu_si H 80 8 ((mu_i H 80 8) + ((1 : Int32) + (1 : Int32)))) := (pt.refl m B H).trans (pt.si h)
                have ha142 : ab m (mu_si H 80 8 ((mu_i H 80 8) + ((1 : Int32) + (1 : Int32)))) = (ab m H) := ab_si h.1 h.2.1
                have hb142 : ps_pot m (mu_si H 80 8 ((mu_i H 80 8) + ((1 : Int32) + (1 : Int32)))) = ps_pot m H := ps_potj h ((mu_i H 80 8) + ((1 : Int32) + (1 : Int32))) (by decide) (by decide)
                have hs142 : gi_sz (mu_si H 80 8 ((mu_i H 80 8) + ((1 : Int32) + (1 : Int32)))) 89 = gi_sz H 89 := rfl
                refine mw_cV (fun _ => rfl) (show mu_is (mu_si H 80 8 ((mu_i H 80 8) + ((1 : Int32) + (1 : Int32)))) (some 80) 7 from hp142.1.is rfl) (pb_push (d := (d + 3)) (B := B) hp142 hBB (by omega) (27 : Int32) (0 : Int32) ⟨27, by decide, rfl⟩) (fun H144 q144 => ?_)
                obtain ⟨hp144, qt144, qi144, qs144, qb144, qa144⟩ := q144
                have ht144 := ht142.trans qt144
                have ha144 : ab m H144 = (tp 11 (ab m H) (27 : Int32) (0 : Int32) 0 0) := qa144.trans (by rw [ha142])
                refine mw_go mu_g145 (k := 5) (f1 := (174, [(1, .inl ((1 : Int32) + (1 : Int32))), (0, .inr (.inr (some 80)))], [.inr (.inr (some 80))], (mu_si H144 80 6 (6 : Int32)))) (C := [mu_is H144 (some 80) 7]) rfl (show mu_is H144 (some 80) 7 from hp144.1.is rfl) ?_
                have hp145 : ps m (mu_si H144 80 6 (6 : Int32)) := hp144.si (by decide) (by decide)
                have ht145 : pt m B H (mu_si H144 80 6 (6 : Int32)) := ht144.trans (pt.si hp144)
                have ha145 : ab m (mu_si H144 80 6 (6 : Int32)) = (tp 11 (ab m H) (27 : Int32) (0 : Int32) 0 0) := (ab_si hp144.1 hp144.2.1).trans ha144
                have hb145 : ps_pot m (mu_si H144 80 6 (6 : Int32)) + ps_mp (mu_i H144 80 6) = ps_pot m H144 + 0 := ps_pot6 hp144 (6 : Int32)
                have hc145 : ps_mp (mu_i H144 80 6) = ps_mp (mu_i H 80 6) := congrArg ps_mp (show mu_i H144 80 6 = (mu_i H 80 6) from (qi144 6))
                have hs145 : gi_sz (mu_si H144 80 6 (6 : Int32)) 89 = gi_sz H144 89 := rfl
                have hi146_3 : mu_i (mu_si H144 80 6 (6 : Int32)) 80 3 = (mu_i H 80 3) := (qi144 3)
                have hi146_4 : mu_i (mu_si H144 80 6 (6 : Int32)) 80 4 = (mu_i H 80 4) := (qi144 4)
                have hi146_5 : mu_i (mu_si H144 80 6 (6 : Int32)) 80 5 = (mu_i H 80 5) := (qi144 5)
                have hi146_7 : mu_i (mu_si H144 80 6 (6 : Int32)) 80 7 = (mu_i H 80 7) := (qi144 7)
                have hi146_8 : mu_i (mu_si H144 80 6 (6 : Int32)) 80 8 = ((mu_i H 80 8) + ((1 : Int32) + (1 : Int32))) := (qi144 8)
                have hi146_9 : mu_i (mu_si H144 80 6 (6 : Int32)) 80 9 = (mu_i H 80 9) := (qi144 9)
                have hi146_10 : mu_i (mu_si H144 80 6 (6 : Int32)) 80 10 = (mu_i H 80 10) := (qi144 10)
                have hi146_11 : mu_i (mu_si H144 80 6 (6 : Int32)) 80 11 = (mu_i H 80 11) := (qi144 11)
                refine mw_cV (fun _ => rfl) (show mu_is (mu_si H144 80 6 (6 : Int32)) (some 80) 7 from hp145.1.is rfl) (pb_adv (d := (d + 5)) (B := B) hp145) (fun H147 q147 => ?_)
                obtain ⟨⟨hp147, qt147, qk147, qb147, qc147⟩, qa147⟩ := q147
                have ht147 := ht145.trans qt147
                have qs147 : gi_sz H147 89 = gi_sz (mu_si H144 80 6 (6 : Int32)) 89 := qk147.2
                have ha147 : ab m H147 = (tp 11 (ab m H) (27 : Int32) (0 : Int32) 0 0) := qa147.trans (by rw [ha145])
                have qd147 := qc147 (show mu_i (mu_si H144 80 6 (6 : Int32)) 80 4 < 114 from (by rw [hi146_4]; exact (show (mu_i H 80 4) < 114 from (by rw [h141]; decide))))
                refine mw_go mu_g145 (k := 1) (f1 := (178, [(1, .inl ((1 : Int32) + (1 : Int32))), (0, .inr (.inr (some 80)))], [.inl (1 : Int32)], H147)) (C := []) rfl trivial ?_
                exact mw_of (fun _ => mu_ret rfl (Or.inr rfl) ⟨_, H147, rfl, Or.inr ⟨rfl, hp147, ht147, by omega, (PC_c (show mu_i H147 80 6 = 6 from (qk147.1 6 (by decide))) (show mu_i H147 80 9 = nI f from (((qk147.1 9 (by decide)).trans hi146_9).trans hfr)) ha147 (hy.pun (q := 27) (by decide) (Or.inl rfl)) (Or.inl ⟨Or.inr rfl, rfl, rfl⟩))⟩⟩)
              · -- 110: not (mu_i H 80 4) = (81 : Int32)
                refine mw_go mu_g145 (k := 3) (f1 := (116, [(1, .inl ((1 : Int32) + (1 : Int32))), (0, .inr (.inr (some 80)))], [.inl (64 : Int32), .inl (mu_i H 80 4)], (mu_si H 80 8 ((mu_i H 80 8) + ((1 : Int32) + (1 : Int32)))))) (C := [mu_is (mu_si H 80 8 ((mu_i H 80 8) + ((1 : Int32) + (1 : Int32)))) (some 80) 7]) rfl (show mu_is (mu_si H 80 8 ((mu_i H 80 8) + ((1 : Int32) + (1 : Int32)))) (some 80) 7 from h.1.is rfl) ?_
                refine mw_if (P := (mu_i H 80 4) = (64 : Int32)) (a := 119) (b := 144) (fun _ => rfl) trivial (fun h148 => ?_) (fun h148 => ?_)
                · -- 119: (mu_i H 80 4) = (64 : Int32)
                  refine mw_go mu_g145 (k := 3) (f1 := (123, [(1, .inl ((1 : Int32) + (1 : Int32))), (0, .inr (.inr (some 80)))], [.inl (0 : Int32), .inl (44 : Int32), .inr (.inr (some 80))], (mu_si H 80 8 ((mu_i H 80 8) + ((1 : Int32) + (1 : Int32)))))) (C := []) rfl trivial ?_
                  have hp149 : ps m (mu_si H 80 8 ((mu_i H 80 8) + ((1 : Int32) + (1 : Int32)))) := h.si (by decide) (by decide)
                  have ht149 : pt m B H (mu_si H 80 8 ((mu_i H 80 8) + ((1 : Int32) + (1 : Int32)))) := (pt.refl m B H).trans (pt.si h)
                  have ha149 : ab m (mu_si H 80 8 ((mu_i H 80 8) + ((1 : Int32) + (1 : Int32)))) = (ab m H) := ab_si h.1 h.2.1
                  have hb149 : ps_pot m (mu_si H 80 8 ((mu_i H 80 8) + ((1 : Int32) + (1 : Int32)))) = ps_pot m H := ps_potj h ((mu_i H 80 8) + ((1 : Int32) + (1 : Int32))) (by decide) (by decide)
                  have hs149 : gi_sz (mu_si H 80 8 ((mu_i H 80 8) + ((1 : Int32) + (1 : Int32)))) 89 = gi_sz H 89 := rfl
                  refine mw_cV (fun _ => rfl) (show mu_is (mu_si H 80 8 ((mu_i H 80 8) + ((1 : Int32) + (1 : Int32)))) (some 80) 7 from hp149.1.is rfl) (pb_push (d := (d + 3)) (B := B) hp149 hBB (by omega) (44 : Int32) (0 : Int32) ⟨44, by decide, rfl⟩) (fun H151 q151 => ?_)
                  obtain ⟨hp151, qt151, qi151, qs151, qb151, qa151⟩ := q151
                  have ht151 := ht149.trans qt151
                  have ha151 : ab m H151 = (tp 11 (ab m H) (44 : Int32) (0 : Int32) 0 0) := qa151.trans (by rw [ha149])
                  refine mw_go mu_g145 (k := 3) (f1 := (131, [(1, .inl ((1 : Int32) + (1 : Int32))), (0, .inr (.inr (some 80)))], [.inl (mu_i H151 80 8), .inr (.inr (some 80))], H151)) (C := [mu_is H151 (some 80) 7]) rfl (show mu_is H151 (some 80) 7 from hp151.1.is rfl) ?_
                  rw [(qi151 8)]
                  refine mw_go mu_g145 (k := 8) (f1 := (174, [(1, .inl ((1 : Int32) + (1 : Int32))), (0, .inr (.inr (some 80)))], [.inr (.inr (some 80))], (mu_si (mu_si H151 80 8 (((mu_i H 80 8) + ((1 : Int32) + (1 : Int32))) + (1 : Int32))) 80 6 (5 : Int32)))) (C := [mu_is H151 (some 80) 7, mu_is (mu_si H151 80 8 (((mu_i H 80 8) + ((1 : Int32) + (1 : Int32))) + (1 : Int32))) (some 80) 7]) rfl (show (mu_is H151 (some 80) 7) ∧ (mu_is (mu_si H151 80 8 (((mu_i H 80 8) + ((1 : Int32) + (1 : Int32))) + (1 : Int32))) (some 80) 7) from ⟨hp151.1.is rfl, hp151.1.is rfl⟩) ?_
                  have hp152 : ps m (mu_si H151 80 8 (((mu_i H 80 8) + ((1 : Int32) + (1 : Int32))) + (1 : Int32))) := hp151.si (by decide) (by decide)
                  have ht152 : pt m B H (mu_si H151 80 8 (((mu_i H 80 8) + ((1 : Int32) + (1 : Int32))) + (1 : Int32))) := ht151.trans (pt.si hp151)
                  have ha152 : ab m (mu_si H151 80 8 (((mu_i H 80 8) + ((1 : Int32) + (1 : Int32))) + (1 : Int32))) = (tp 11 (ab m H) (44 : Int32) (0 : Int32) 0 0) := (ab_si hp151.1 hp151.2.1).trans ha151
                  have hb152 : ps_pot m (mu_si H151 80 8 (((mu_i H 80 8) + ((1 : Int32) + (1 : Int32))) + (1 : Int32))) = ps_pot m H151 := ps_potj hp151 (((mu_i H 80 8) + ((1 : Int32) + (1 : Int32))) + (1 : Int32)) (by decide) (by decide)
                  have hs152 : gi_sz (mu_si H151 80 8 (((mu_i H 80 8) + ((1 : Int32) + (1 : Int32))) + (1 : Int32))) 89 = gi_sz H151 89 := rfl
                  have hp153 : ps m (mu_si (mu_si H151 80 8 (((mu_i H 80 8) + ((1 : Int32) + (1 : Int32))) + (1 : Int32))) 80 6 (5 : Int32)) := hp152.si (by decide) (by decide)
                  have ht153 : pt m B H (mu_si (mu_si H151 80 8 (((mu_i H 80 8) + ((1 : Int32) + (1 : Int32))) + (1 : Int32))) 80 6 (5 : Int32)) := ht152.trans (pt.si hp152)
                  have ha153 : ab m (mu_si (mu_si H151 80 8 (((mu_i H 80 8) + ((1 : Int32) + (1 : Int32))) + (1 : Int32))) 80 6 (5 : Int32)) = (tp 11 (ab m H) (44 : Int32) (0 : Int32) 0 0) := (ab_si hp152.1 hp152.2.1).trans ha152
                  have hb153 : ps_pot m (mu_si (mu_si H151 80 8 (((mu_i H 80 8) + ((1 : Int32) + (1 : Int32))) + (1 : Int32))) 80 6 (5 : Int32)) + ps_mp (mu_i (mu_si H151 80 8 (((mu_i H 80 8) + ((1 : Int32) + (1 : Int32))) + (1 : Int32))) 80 6) = ps_pot m (mu_si H151 80 8 (((mu_i H 80 8) + ((1 : Int32) + (1 : Int32))) + (1 : Int32))) + 0 := ps_pot6 hp152 (5 : Int32)
                  have hc153 : ps_mp (mu_i (mu_si H151 80 8 (((mu_i H 80 8) + ((1 : Int32) + (1 : Int32))) + (1 : Int32))) 80 6) = ps_mp (mu_i H 80 6) := congrArg ps_mp (show mu_i (mu_si H151 80 8 (((mu_i H 80 8) + ((1 : Int32) + (1 : Int32))) + (1 : Int32))) 80 6 = (mu_i H 80 6) from (qi151 6))
                  have hs153 : gi_sz (mu_si (mu_si H151 80 8 (((mu_i H 80 8) + ((1 : Int32) + (1 : Int32))) + (1 : Int32))) 80 6 (5 : Int32)) 89 = gi_sz (mu_si H151 80 8 (((mu_i H 80 8) + ((1 : Int32) + (1 : Int32))) + (1 : Int32))) 89 := rfl
                  have hi154_3 : mu_i (mu_si (mu_si H151 80 8 (((mu_i H 80 8) + ((1 : Int32) + (1 : Int32))) + (1 : Int32))) 80 6 (5 : Int32)) 80 3 = (mu_i H 80 3) := (qi151 3)
                  have hi154_4 : mu_i (mu_si (mu_si H151 80 8 (((mu_i H 80 8) + ((1 : Int32) + (1 : Int32))) + (1 : Int32))) 80 6 (5 : Int32)) 80 4 = (mu_i H 80 4) := (qi151 4)
                  have hi154_5 : mu_i (mu_si (mu_si H151 80 8 (((mu_i H 80 8) + ((1 : Int32) + (1 : Int32))) + (1 : Int32))) 80 6 (5 : Int32)) 80 5 = (mu_i H 80 5) := (qi151 5)
                  have hi154_7 : mu_i (mu_si (mu_si H151 80 8 (((mu_i H 80 8) + ((1 : Int32) + (1 : Int32))) + (1 : Int32))) 80 6 (5 : Int32)) 80 7 = (mu_i H 80 7) := (qi151 7)
                  have hi154_9 : mu_i (mu_si (mu_si H151 80 8 (((mu_i H 80 8) + ((1 : Int32) + (1 : Int32))) + (1 : Int32))) 80 6 (5 : Int32)) 80 9 = (mu_i H 80 9) := (qi151 9)
                  have hi154_10 : mu_i (mu_si (mu_si H151 80 8 (((mu_i H 80 8) + ((1 : Int32) + (1 : Int32))) + (1 : Int32))) 80 6 (5 : Int32)) 80 10 = (mu_i H 80 10) := (qi151 10)
                  have hi154_11 : mu_i (mu_si (mu_si H151 80 8 (((mu_i H 80 8) + ((1 : Int32) + (1 : Int32))) + (1 : Int32))) 80 6 (5 : Int32)) 80 11 = (mu_i H 80 11) := (qi151 11)
                  refine mw_cV (fun _ => rfl) (show mu_is (mu_si (mu_si H151 80 8 (((mu_i H 80 8) + ((1 : Int32) + (1 : Int32))) + (1 : Int32))) 80 6 (5 : Int32)) (some 80) 7 from hp153.1.is rfl) (pb_adv (d := (d + 5)) (B := B) hp153) (fun H155 q155 => ?_)
                  obtain ⟨⟨hp155, qt155, qk155, qb155, qc155⟩, qa155⟩ := q155
                  have ht155 := ht153.trans qt155
                  have qs155 : gi_sz H155 89 = gi_sz (mu_si (mu_si H151 80 8 (((mu_i H 80 8) + ((1 : Int32) + (1 : Int32))) + (1 : Int32))) 80 6 (5 : Int32)) 89 := qk155.2
                  have ha155 : ab m H155 = (tp 11 (ab m H) (44 : Int32) (0 : Int32) 0 0) := qa155.trans (by rw [ha153])
                  have qd155 := qc155 (show mu_i (mu_si (mu_si H151 80 8 (((mu_i H 80 8) + ((1 : Int32) + (1 : Int32))) + (1 : Int32))) 80 6 (5 : Int32)) 80 4 < 114 from (by rw [hi154_4]; exact (show (mu_i H 80 4) < 114 from (by rw [h148]; decide))))
                  refine mw_go mu_g145 (k := 1) (f1 := (178, [(1, .inl ((1 : Int32) + (1 : Int32))), (0, .inr (.inr (some 80)))], [.inl (1 : Int32)], H155)) (C := []) rfl trivial ?_
                  exact mw_of (fun _ => mu_ret rfl (Or.inr rfl) ⟨_, H155, rfl, Or.inr ⟨rfl, hp155, ht155, by omega, (PC_c (show mu_i H155 80 6 = 5 from (qk155.1 6 (by decide))) (show mu_i H155 80 9 = nI f from (((qk155.1 9 (by decide)).trans hi154_9).trans hfr)) ha155 hy.p44 (Or.inl ⟨Or.inl rfl, rfl, rfl⟩))⟩⟩)
                · -- 144: not (mu_i H 80 4) = (64 : Int32)
                  refine mw_go mu_g145 (k := 3) (f1 := (150, [(1, .inl ((1 : Int32) + (1 : Int32))), (0, .inr (.inr (some 80)))], [.inl (24 : Int32), .inl (mu_i H 80 4)], (mu_si H 80 8 ((mu_i H 80 8) + ((1 : Int32) + (1 : Int32)))))) (C := [mu_is (mu_si H 80 8 ((mu_i H 80 8) + ((1 : Int32) + (1 : Int32)))) (some 80) 7]) rfl (show mu_is (mu_si H 80 8 ((mu_i H 80 8) + ((1 : Int32) + (1 : Int32)))) (some 80) 7 from h.1.is rfl) ?_
                  refine mw_if (P := (mu_i H 80 4) = (24 : Int32)) (a := 153) (b := 168) (fun _ => rfl) trivial (fun _ => ?_) (fun h156 => absurd h139 h156)
                  refine mw_go mu_g145 (k := 3) (f1 := (157, [(1, .inl ((1 : Int32) + (1 : Int32))), (0, .inr (.inr (some 80)))], [.inl (0 : Int32), .inl (48 : Int32), .inr (.inr (some 80))], (mu_si H 80 8 ((mu_i H 80 8) + ((1 : Int32) + (1 : Int32)))))) (C := []) rfl trivial ?_
                  have hp157 : ps m (mu_si H 80 8 ((mu_i H 80 8) + ((1 : Int32) + (1 : Int32)))) := h.si (by decide) (by decide)
                  have ht157 : pt m B H (mu_si H 80 8 ((mu_i H 80 8) + ((1 : Int32) + (1 : Int32)))) := (pt.refl m B H).trans (pt.si h)
                  have ha157 : ab m (mu_si H 80 8 ((mu_i H 80 8) + ((1 : Int32) + (1 : Int32)))) = (ab m H) := ab_si h.1 h.2.1
                  have hb157 : ps_pot m (mu_si H 80 8 ((mu_i H 80 8) + ((1 : Int32) + (1 : Int32)))) = ps_pot m H := ps_potj h ((mu_i H 80 8) + ((1 : Int32) + (1 : Int32))) (by decide) (by decide)
                  have hs157 : gi_sz (mu_si H 80 8 ((mu_i H 80 8) + ((1 : Int32) + (1 : Int32)))) 89 = gi_sz H 89 := rfl
                  refine mw_cV (fun _ => rfl) (show mu_is (mu_si H 80 8 ((mu_i H 80 8) + ((1 : Int32) + (1 : Int32)))) (some 80) 7 from hp157.1.is rfl) (pb_push (d := (d + 3)) (B := B) hp157 hBB (by omega) (48 : Int32) (0 : Int32) ⟨48, by decide, rfl⟩) (fun H159 q159 => ?_)
                  obtain ⟨hp159, qt159, qi159, qs159, qb159, qa159⟩ := q159
                  have ht159 := ht157.trans qt159
                  have ha159 : ab m H159 = (tp 11 (ab m H) (48 : Int32) (0 : Int32) 0 0) := qa159.trans (by rw [ha157])
                  refine mw_go mu_g145 (k := 5) (f1 := (174, [(1, .inl ((1 : Int32) + (1 : Int32))), (0, .inr (.inr (some 80)))], [.inr (.inr (some 80))], (mu_si H159 80 6 (5 : Int32)))) (C := [mu_is H159 (some 80) 7]) rfl (show mu_is H159 (some 80) 7 from hp159.1.is rfl) ?_
                  have hp160 : ps m (mu_si H159 80 6 (5 : Int32)) := hp159.si (by decide) (by decide)
                  have ht160 : pt m B H (mu_si H159 80 6 (5 : Int32)) := ht159.trans (pt.si hp159)
                  have ha160 : ab m (mu_si H159 80 6 (5 : Int32)) = (tp 11 (ab m H) (48 : Int32) (0 : Int32) 0 0) := (ab_si hp159.1 hp159.2.1).trans ha159
                  have hb160 : ps_pot m (mu_si H159 80 6 (5 : Int32)) + ps_mp (mu_i H159 80 6) = ps_pot m H159 + 0 := ps_pot6 hp159 (5 : Int32)
                  have hc160 : ps_mp (mu_i H159 80 6) = ps_mp (mu_i H 80 6) := congrArg ps_mp (show mu_i H159 80 6 = (mu_i H 80 6) from (qi159 6))
                  have hs160 : gi_sz (mu_si H159 80 6 (5 : Int32)) 89 = gi_sz H159 89 := rfl
                  have hi161_3 : mu_i (mu_si H159 80 6 (5 : Int32)) 80 3 = (mu_i H 80 3) := (qi159 3)
                  have hi161_4 : mu_i (mu_si H159 80 6 (5 : Int32)) 80 4 = (mu_i H 80 4) := (qi159 4)
                  have hi161_5 : mu_i (mu_si H159 80 6 (5 : Int32)) 80 5 = (mu_i H 80 5) := (qi159 5)
                  have hi161_7 : mu_i (mu_si H159 80 6 (5 : Int32)) 80 7 = (mu_i H 80 7) := (qi159 7)
                  have hi161_8 : mu_i (mu_si H159 80 6 (5 : Int32)) 80 8 = ((mu_i H 80 8) + ((1 : Int32) + (1 : Int32))) := (qi159 8)
                  have hi161_9 : mu_i (mu_si H159 80 6 (5 : Int32)) 80 9 = (mu_i H 80 9) := (qi159 9)
                  have hi161_10 : mu_i (mu_si H159 80 6 (5 : Int32)) 80 10 = (mu_i H 80 10) := (qi159 10)
                  have hi161_11 : mu_i (mu_si H159 80 6 (5 : Int32)) 80 11 = (mu_i H 80 11) := (qi159 11)
                  refine mw_cV (fun _ => rfl) (show mu_is (mu_si H159 80 6 (5 : Int32)) (some 80) 7 from hp160.1.is rfl) (pb_adv (d := (d + 5)) (B := B) hp160) (fun H162 q162 => ?_)
                  obtain ⟨⟨hp162, qt162, qk162, qb162, qc162⟩, qa162⟩ := q162
                  have ht162 := ht160.trans qt162
                  have qs162 : gi_sz H162 89 = gi_sz (mu_si H159 80 6 (5 : Int32)) 89 := qk162.2
                  have ha162 : ab m H162 = (tp 11 (ab m H) (48 : Int32) (0 : Int32) 0 0) := qa162.trans (by rw [ha160])
                  have qd162 := qc162 (show mu_i (mu_si H159 80 6 (5 : Int32)) 80 4 < 114 from (by rw [hi161_4]; exact (show (mu_i H 80 4) < 114 from (by rw [h139]; decide))))
                  refine mw_go mu_g145 (k := 1) (f1 := (178, [(1, .inl ((1 : Int32) + (1 : Int32))), (0, .inr (.inr (some 80)))], [.inl (1 : Int32)], H162)) (C := []) rfl trivial ?_
                  exact mw_of (fun _ => mu_ret rfl (Or.inr rfl) ⟨_, H162, rfl, Or.inr ⟨rfl, hp162, ht162, by omega, (PC_c (show mu_i H162 80 6 = 5 from (qk162.1 6 (by decide))) (show mu_i H162 80 9 = nI f from (((qk162.1 9 (by decide)).trans hi161_9).trans hfr)) ha162 hy.p48 (Or.inl ⟨Or.inl rfl, rfl, rfl⟩))⟩⟩)
          · -- 58: not (mu_i H 80 4) = (24 : Int32)
            refine mw_go mu_g145 (k := 8) (f1 := (70, [(1, .inl ((1 : Int32) + (0 : Int32))), (0, .inr (.inr (some 80)))], [.inl (150 : Int32), .inl ((mu_i H 80 8) + ((1 : Int32) + (0 : Int32)))], H)) (C := [mu_is H (some 80) 7]) rfl (show mu_is H (some 80) 7 from h.1.is rfl) ?_
            refine mw_if (P := (150 : Int32) < ((mu_i H 80 8) + ((1 : Int32) + (0 : Int32)))) (a := 73) (b := 75) (fun _ => rfl) trivial (fun h163 => ?_) (fun h163 => ?_)
            · -- 73: (150 : Int32) < ((mu_i H 80 8) + ((1 : Int32) + (0 : Int32)))
              refine mw_go mu_g145 (k := 1) (f1 := (74, [(1, .inl ((1 : Int32) + (0 : Int32))), (0, .inr (.inr (some 80)))], [.inl (0 : Int32)], H)) (C := []) rfl trivial ?_
              exact mw_of (fun _ => mu_ret rfl (Or.inl rfl) ⟨_, H, rfl, Or.inl ⟨rfl, h, (pt.refl m B H), by omega⟩⟩)
            · -- 75: not (150 : Int32) < ((mu_i H 80 8) + ((1 : Int32) + (0 : Int32)))
              refine mw_go mu_g145 (k := 9) (f1 := (91, [(1, .inl ((1 : Int32) + (0 : Int32))), (0, .inr (.inr (some 80)))], [.inl (81 : Int32), .inl (mu_i H 80 4)], (mu_si H 80 8 ((mu_i H 80 8) + ((1 : Int32) + (0 : Int32)))))) (C := [mu_is H (some 80) 7, mu_is H (some 80) 7, mu_is (mu_si H 80 8 ((mu_i H 80 8) + ((1 : Int32) + (0 : Int32)))) (some 80) 7]) rfl (show (mu_is H (some 80) 7) ∧ (mu_is H (some 80) 7) ∧ (mu_is (mu_si H 80 8 ((mu_i H 80 8) + ((1 : Int32) + (0 : Int32)))) (some 80) 7) from ⟨h.1.is rfl, h.1.is rfl, h.1.is rfl⟩) ?_
              refine mw_if (P := (mu_i H 80 4) = (81 : Int32)) (a := 94) (b := 110) (fun _ => rfl) trivial (fun h164 => ?_) (fun h164 => ?_)
              · -- 94: (mu_i H 80 4) = (81 : Int32)
                refine mw_go mu_g145 (k := 3) (f1 := (98, [(1, .inl ((1 : Int32) + (0 : Int32))), (0, .inr (.inr (some 80)))], [.inl (0 : Int32), .inl (27 : Int32), .inr (.inr (some 80))], (mu_si H 80 8 ((mu_i H 80 8) + ((1 : Int32) + (0 : Int32)))))) (C := []) rfl trivial ?_
                have hp165 : ps m (mu_si H 80 8 ((mu_i H 80 8) + ((1 : Int32) + (0 : Int32)))) := h.si (by decide) (by decide)
                have ht165 : pt m B H (mu_si H 80 8 ((mu_i H 80 8) + ((1 : Int32) + (0 : Int32)))) := (pt.refl m B H).trans (pt.si h)
                have ha165 : ab m (mu_si H 80 8 ((mu_i H 80 8) + ((1 : Int32) + (0 : Int32)))) = (ab m H) := ab_si h.1 h.2.1
                have hb165 : ps_pot m (mu_si H 80 8 ((mu_i H 80 8) + ((1 : Int32) + (0 : Int32)))) = ps_pot m H := ps_potj h ((mu_i H 80 8) + ((1 : Int32) + (0 : Int32))) (by decide) (by decide)
                have hs165 : gi_sz (mu_si H 80 8 ((mu_i H 80 8) + ((1 : Int32) + (0 : Int32)))) 89 = gi_sz H 89 := rfl
                refine mw_cV (fun _ => rfl) (show mu_is (mu_si H 80 8 ((mu_i H 80 8) + ((1 : Int32) + (0 : Int32)))) (some 80) 7 from hp165.1.is rfl) (pb_push (d := (d + 3)) (B := B) hp165 hBB (by omega) (27 : Int32) (0 : Int32) ⟨27, by decide, rfl⟩) (fun H167 q167 => ?_)
                obtain ⟨hp167, qt167, qi167, qs167, qb167, qa167⟩ := q167
                have ht167 := ht165.trans qt167
                have ha167 : ab m H167 = (tp 11 (ab m H) (27 : Int32) (0 : Int32) 0 0) := qa167.trans (by rw [ha165])
                refine mw_go mu_g145 (k := 5) (f1 := (174, [(1, .inl ((1 : Int32) + (0 : Int32))), (0, .inr (.inr (some 80)))], [.inr (.inr (some 80))], (mu_si H167 80 6 (6 : Int32)))) (C := [mu_is H167 (some 80) 7]) rfl (show mu_is H167 (some 80) 7 from hp167.1.is rfl) ?_
                have hp168 : ps m (mu_si H167 80 6 (6 : Int32)) := hp167.si (by decide) (by decide)
                have ht168 : pt m B H (mu_si H167 80 6 (6 : Int32)) := ht167.trans (pt.si hp167)
                have ha168 : ab m (mu_si H167 80 6 (6 : Int32)) = (tp 11 (ab m H) (27 : Int32) (0 : Int32) 0 0) := (ab_si hp167.1 hp167.2.1).trans ha167
                have hb168 : ps_pot m (mu_si H167 80 6 (6 : Int32)) + ps_mp (mu_i H167 80 6) = ps_pot m H167 + 0 := ps_pot6 hp167 (6 : Int32)
                have hc168 : ps_mp (mu_i H167 80 6) = ps_mp (mu_i H 80 6) := congrArg ps_mp (show mu_i H167 80 6 = (mu_i H 80 6) from (qi167 6))
                have hs168 : gi_sz (mu_si H167 80 6 (6 : Int32)) 89 = gi_sz H167 89 := rfl
                have hi169_3 : mu_i (mu_si H167 80 6 (6 : Int32)) 80 3 = (mu_i H 80 3) := (qi167 3)
                have hi169_4 : mu_i (mu_si H167 80 6 (6 : Int32)) 80 4 = (mu_i H 80 4) := (qi167 4)
                have hi169_5 : mu_i (mu_si H167 80 6 (6 : Int32)) 80 5 = (mu_i H 80 5) := (qi167 5)
                have hi169_7 : mu_i (mu_si H167 80 6 (6 : Int32)) 80 7 = (mu_i H 80 7) := (qi167 7)
                have hi169_8 : mu_i (mu_si H167 80 6 (6 : Int32)) 80 8 = ((mu_i H 80 8) + ((1 : Int32) + (0 : Int32))) := (qi167 8)
                have hi169_9 : mu_i (mu_si H167 80 6 (6 : Int32)) 80 9 = (mu_i H 80 9) := (qi167 9)
                have hi169_10 : mu_i (mu_si H167 80 6 (6 : Int32)) 80 10 = (mu_i H 80 10) := (qi167 10)
                have hi169_11 : mu_i (mu_si H167 80 6 (6 : Int32)) 80 11 = (mu_i H 80 11) := (qi167 11)
                refine mw_cV (fun _ => rfl) (show mu_is (mu_si H167 80 6 (6 : Int32)) (some 80) 7 from hp168.1.is rfl) (pb_adv (d := (d + 5)) (B := B) hp168) (fun H170 q170 => ?_)
                obtain ⟨⟨hp170, qt170, qk170, qb170, qc170⟩, qa170⟩ := q170
                have ht170 := ht168.trans qt170
                have qs170 : gi_sz H170 89 = gi_sz (mu_si H167 80 6 (6 : Int32)) 89 := qk170.2
                have ha170 : ab m H170 = (tp 11 (ab m H) (27 : Int32) (0 : Int32) 0 0) := qa170.trans (by rw [ha168])
                have qd170 := qc170 (show mu_i (mu_si H167 80 6 (6 : Int32)) 80 4 < 114 from (by rw [hi169_4]; exact (show (mu_i H 80 4) < 114 from (by rw [h164]; decide))))
                refine mw_go mu_g145 (k := 1) (f1 := (178, [(1, .inl ((1 : Int32) + (0 : Int32))), (0, .inr (.inr (some 80)))], [.inl (1 : Int32)], H170)) (C := []) rfl trivial ?_
                exact mw_of (fun _ => mu_ret rfl (Or.inr rfl) ⟨_, H170, rfl, Or.inr ⟨rfl, hp170, ht170, by omega, (PC_c (show mu_i H170 80 6 = 6 from (qk170.1 6 (by decide))) (show mu_i H170 80 9 = nI f from (((qk170.1 9 (by decide)).trans hi169_9).trans hfr)) ha170 (hy.pun (q := 27) (by decide) (Or.inl rfl)) (Or.inl ⟨Or.inr rfl, rfl, rfl⟩))⟩⟩)
              · -- 110: not (mu_i H 80 4) = (81 : Int32)
                refine mw_go mu_g145 (k := 3) (f1 := (116, [(1, .inl ((1 : Int32) + (0 : Int32))), (0, .inr (.inr (some 80)))], [.inl (64 : Int32), .inl (mu_i H 80 4)], (mu_si H 80 8 ((mu_i H 80 8) + ((1 : Int32) + (0 : Int32)))))) (C := [mu_is (mu_si H 80 8 ((mu_i H 80 8) + ((1 : Int32) + (0 : Int32)))) (some 80) 7]) rfl (show mu_is (mu_si H 80 8 ((mu_i H 80 8) + ((1 : Int32) + (0 : Int32)))) (some 80) 7 from h.1.is rfl) ?_
                refine mw_if (P := (mu_i H 80 4) = (64 : Int32)) (a := 119) (b := 144) (fun _ => rfl) trivial (fun h171 => ?_) (fun h171 => ?_)
                · -- 119: (mu_i H 80 4) = (64 : Int32)
                  refine mw_go mu_g145 (k := 3) (f1 := (123, [(1, .inl ((1 : Int32) + (0 : Int32))), (0, .inr (.inr (some 80)))], [.inl (0 : Int32), .inl (44 : Int32), .inr (.inr (some 80))], (mu_si H 80 8 ((mu_i H 80 8) + ((1 : Int32) + (0 : Int32)))))) (C := []) rfl trivial ?_
                  have hp172 : ps m (mu_si H 80 8 ((mu_i H 80 8) + ((1 : Int32) + (0 : Int32)))) := h.si (by decide) (by decide)
                  have ht172 : pt m B H (mu_si H 80 8 ((mu_i H 80 8) + ((1 : Int32) + (0 : Int32)))) := (pt.refl m B H).trans (pt.si h)
                  have ha172 : ab m (mu_si H 80 8 ((mu_i H 80 8) + ((1 : Int32) + (0 : Int32)))) = (ab m H) := ab_si h.1 h.2.1
                  have hb172 : ps_pot m (mu_si H 80 8 ((mu_i H 80 8) + ((1 : Int32) + (0 : Int32)))) = ps_pot m H := ps_potj h ((mu_i H 80 8) + ((1 : Int32) + (0 : Int32))) (by decide) (by decide)
                  have hs172 : gi_sz (mu_si H 80 8 ((mu_i H 80 8) + ((1 : Int32) + (0 : Int32)))) 89 = gi_sz H 89 := rfl
                  refine mw_cV (fun _ => rfl) (show mu_is (mu_si H 80 8 ((mu_i H 80 8) + ((1 : Int32) + (0 : Int32)))) (some 80) 7 from hp172.1.is rfl) (pb_push (d := (d + 3)) (B := B) hp172 hBB (by omega) (44 : Int32) (0 : Int32) ⟨44, by decide, rfl⟩) (fun H174 q174 => ?_)
                  obtain ⟨hp174, qt174, qi174, qs174, qb174, qa174⟩ := q174
                  have ht174 := ht172.trans qt174
                  have ha174 : ab m H174 = (tp 11 (ab m H) (44 : Int32) (0 : Int32) 0 0) := qa174.trans (by rw [ha172])
                  refine mw_go mu_g145 (k := 3) (f1 := (131, [(1, .inl ((1 : Int32) + (0 : Int32))), (0, .inr (.inr (some 80)))], [.inl (mu_i H174 80 8), .inr (.inr (some 80))], H174)) (C := [mu_is H174 (some 80) 7]) rfl (show mu_is H174 (some 80) 7 from hp174.1.is rfl) ?_
                  rw [(qi174 8)]
                  refine mw_go mu_g145 (k := 8) (f1 := (174, [(1, .inl ((1 : Int32) + (0 : Int32))), (0, .inr (.inr (some 80)))], [.inr (.inr (some 80))], (mu_si (mu_si H174 80 8 (((mu_i H 80 8) + ((1 : Int32) + (0 : Int32))) + (1 : Int32))) 80 6 (5 : Int32)))) (C := [mu_is H174 (some 80) 7, mu_is (mu_si H174 80 8 (((mu_i H 80 8) + ((1 : Int32) + (0 : Int32))) + (1 : Int32))) (some 80) 7]) rfl (show (mu_is H174 (some 80) 7) ∧ (mu_is (mu_si H174 80 8 (((mu_i H 80 8) + ((1 : Int32) + (0 : Int32))) + (1 : Int32))) (some 80) 7) from ⟨hp174.1.is rfl, hp174.1.is rfl⟩) ?_
                  have hp175 : ps m (mu_si H174 80 8 (((mu_i H 80 8) + ((1 : Int32) + (0 : Int32))) + (1 : Int32))) := hp174.si (by decide) (by decide)
                  have ht175 : pt m B H (mu_si H174 80 8 (((mu_i H 80 8) + ((1 : Int32) + (0 : Int32))) + (1 : Int32))) := ht174.trans (pt.si hp174)
                  have ha175 : ab m (mu_si H174 80 8 (((mu_i H 80 8) + ((1 : Int32) + (0 : Int32))) + (1 : Int32))) = (tp 11 (ab m H) (44 : Int32) (0 : Int32) 0 0) := (ab_si hp174.1 hp174.2.1).trans ha174
                  have hb175 : ps_pot m (mu_si H174 80 8 (((mu_i H 80 8) + ((1 : Int32) + (0 : Int32))) + (1 : Int32))) = ps_pot m H174 := ps_potj hp174 (((mu_i H 80 8) + ((1 : Int32) + (0 : Int32))) + (1 : Int32)) (by decide) (by decide)
                  have hs175 : gi_sz (mu_si H174 80 8 (((mu_i H 80 8) + ((1 : Int32) + (0 : Int32))) + (1 : Int32))) 89 = gi_sz H174 89 := rfl
                  have hp176 : ps m (mu_si (mu_si H174 80 8 (((mu_i H 80 8) + ((1 : Int32) + (0 : Int32))) + (1 : Int32))) 80 6 (5 : Int32)) := hp175.si (by decide) (by decide)
                  have ht176 : pt m B H (mu_si (mu_si H174 80 8 (((mu_i H 80 8) + ((1 : Int32) + (0 : Int32))) + (1 : Int32))) 80 6 (5 : Int32)) := ht175.trans (pt.si hp175)
                  have ha176 : ab m (mu_si (mu_si H174 80 8 (((mu_i H 80 8) + ((1 : Int32) + (0 : Int32))) + (1 : Int32))) 80 6 (5 : Int32)) = (tp 11 (ab m H) (44 : Int32) (0 : Int32) 0 0) := (ab_si hp175.1 hp175.2.1).trans ha175
                  have hb176 : ps_pot m (mu_si (mu_si H174 80 8 (((mu_i H 80 8) + ((1 : Int32) + (0 : Int32))) + (1 : Int32))) 80 6 (5 : Int32)) + ps_mp (mu_i (mu_si H174 80 8 (((mu_i H 80 8) + ((1 : Int32) + (0 : Int32))) + (1 : Int32))) 80 6) = ps_pot m (mu_si H174 80 8 (((mu_i H 80 8) + ((1 : Int32) + (0 : Int32))) + (1 : Int32))) + 0 := ps_pot6 hp175 (5 : Int32)
                  have hc176 : ps_mp (mu_i (mu_si H174 80 8 (((mu_i H 80 8) + ((1 : Int32) + (0 : Int32))) + (1 : Int32))) 80 6) = ps_mp (mu_i H 80 6) := congrArg ps_mp (show mu_i (mu_si H174 80 8 (((mu_i H 80 8) + ((1 : Int32) + (0 : Int32))) + (1 : Int32))) 80 6 = (mu_i H 80 6) from (qi174 6))
                  have hs176 : gi_sz (mu_si (mu_si H174 80 8 (((mu_i H 80 8) + ((1 : Int32) + (0 : Int32))) + (1 : Int32))) 80 6 (5 : Int32)) 89 = gi_sz (mu_si H174 80 8 (((mu_i H 80 8) + ((1 : Int32) + (0 : Int32))) + (1 : Int32))) 89 := rfl
                  have hi177_3 : mu_i (mu_si (mu_si H174 80 8 (((mu_i H 80 8) + ((1 : Int32) + (0 : Int32))) + (1 : Int32))) 80 6 (5 : Int32)) 80 3 = (mu_i H 80 3) := (qi174 3)
                  have hi177_4 : mu_i (mu_si (mu_si H174 80 8 (((mu_i H 80 8) + ((1 : Int32) + (0 : Int32))) + (1 : Int32))) 80 6 (5 : Int32)) 80 4 = (mu_i H 80 4) := (qi174 4)
                  have hi177_5 : mu_i (mu_si (mu_si H174 80 8 (((mu_i H 80 8) + ((1 : Int32) + (0 : Int32))) + (1 : Int32))) 80 6 (5 : Int32)) 80 5 = (mu_i H 80 5) := (qi174 5)
                  have hi177_7 : mu_i (mu_si (mu_si H174 80 8 (((mu_i H 80 8) + ((1 : Int32) + (0 : Int32))) + (1 : Int32))) 80 6 (5 : Int32)) 80 7 = (mu_i H 80 7) := (qi174 7)
                  have hi177_9 : mu_i (mu_si (mu_si H174 80 8 (((mu_i H 80 8) + ((1 : Int32) + (0 : Int32))) + (1 : Int32))) 80 6 (5 : Int32)) 80 9 = (mu_i H 80 9) := (qi174 9)
                  have hi177_10 : mu_i (mu_si (mu_si H174 80 8 (((mu_i H 80 8) + ((1 : Int32) + (0 : Int32))) + (1 : Int32))) 80 6 (5 : Int32)) 80 10 = (mu_i H 80 10) := (qi174 10)
                  have hi177_11 : mu_i (mu_si (mu_si H174 80 8 (((mu_i H 80 8) + ((1 : Int32) + (0 : Int32))) + (1 : Int32))) 80 6 (5 : Int32)) 80 11 = (mu_i H 80 11) := (qi174 11)
                  refine mw_cV (fun _ => rfl) (show mu_is (mu_si (mu_si H174 80 8 (((mu_i H 80 8) + ((1 : Int32) + (0 : Int32))) + (1 : Int32))) 80 6 (5 : Int32)) (some 80) 7 from hp176.1.is rfl) (pb_adv (d := (d + 5)) (B := B) hp176) (fun H178 q178 => ?_)
                  obtain ⟨⟨hp178, qt178, qk178, qb178, qc178⟩, qa178⟩ := q178
                  have ht178 := ht176.trans qt178
                  have qs178 : gi_sz H178 89 = gi_sz (mu_si (mu_si H174 80 8 (((mu_i H 80 8) + ((1 : Int32) + (0 : Int32))) + (1 : Int32))) 80 6 (5 : Int32)) 89 := qk178.2
                  have ha178 : ab m H178 = (tp 11 (ab m H) (44 : Int32) (0 : Int32) 0 0) := qa178.trans (by rw [ha176])
                  have qd178 := qc178 (show mu_i (mu_si (mu_si H174 80 8 (((mu_i H 80 8) + ((1 : Int32) + (0 : Int32))) + (1 : Int32))) 80 6 (5 : Int32)) 80 4 < 114 from (by rw [hi177_4]; exact (show (mu_i H 80 4) < 114 from (by rw [h171]; decide))))
                  refine mw_go mu_g145 (k := 1) (f1 := (178, [(1, .inl ((1 : Int32) + (0 : Int32))), (0, .inr (.inr (some 80)))], [.inl (1 : Int32)], H178)) (C := []) rfl trivial ?_
                  exact mw_of (fun _ => mu_ret rfl (Or.inr rfl) ⟨_, H178, rfl, Or.inr ⟨rfl, hp178, ht178, by omega, (PC_c (show mu_i H178 80 6 = 5 from (qk178.1 6 (by decide))) (show mu_i H178 80 9 = nI f from (((qk178.1 9 (by decide)).trans hi177_9).trans hfr)) ha178 hy.p44 (Or.inl ⟨Or.inl rfl, rfl, rfl⟩))⟩⟩)
                · -- 144: not (mu_i H 80 4) = (64 : Int32)
                  refine mw_go mu_g145 (k := 3) (f1 := (150, [(1, .inl ((1 : Int32) + (0 : Int32))), (0, .inr (.inr (some 80)))], [.inl (24 : Int32), .inl (mu_i H 80 4)], (mu_si H 80 8 ((mu_i H 80 8) + ((1 : Int32) + (0 : Int32)))))) (C := [mu_is (mu_si H 80 8 ((mu_i H 80 8) + ((1 : Int32) + (0 : Int32)))) (some 80) 7]) rfl (show mu_is (mu_si H 80 8 ((mu_i H 80 8) + ((1 : Int32) + (0 : Int32)))) (some 80) 7 from h.1.is rfl) ?_
                  refine mw_if (P := (mu_i H 80 4) = (24 : Int32)) (a := 153) (b := 168) (fun _ => rfl) trivial (fun h179 => absurd h179 h139) (fun _ => ?_)
                  refine mw_go mu_g145 (k := 1) (f1 := (169, [(1, .inl ((1 : Int32) + (0 : Int32))), (0, .inr (.inr (some 80)))], [.inr (.inr (some 80))], (mu_si H 80 8 ((mu_i H 80 8) + ((1 : Int32) + (0 : Int32)))))) (C := []) rfl trivial ?_
                  have hp180 : ps m (mu_si H 80 8 ((mu_i H 80 8) + ((1 : Int32) + (0 : Int32)))) := h.si (by decide) (by decide)
                  have ht180 : pt m B H (mu_si H 80 8 ((mu_i H 80 8) + ((1 : Int32) + (0 : Int32)))) := (pt.refl m B H).trans (pt.si h)
                  have ha180 : ab m (mu_si H 80 8 ((mu_i H 80 8) + ((1 : Int32) + (0 : Int32)))) = (ab m H) := ab_si h.1 h.2.1
                  have hb180 : ps_pot m (mu_si H 80 8 ((mu_i H 80 8) + ((1 : Int32) + (0 : Int32)))) = ps_pot m H := ps_potj h ((mu_i H 80 8) + ((1 : Int32) + (0 : Int32))) (by decide) (by decide)
                  have hs180 : gi_sz (mu_si H 80 8 ((mu_i H 80 8) + ((1 : Int32) + (0 : Int32)))) 89 = gi_sz H 89 := rfl
                  refine mw_cI (fun _ => rfl) (show mu_is (mu_si H 80 8 ((mu_i H 80 8) + ((1 : Int32) + (0 : Int32)))) (some 80) 7 from hp180.1.is rfl) (pb_leaf (d := d) (B := B) hp180 hBB (by omega) (show mu_i (mu_si H 80 8 ((mu_i H 80 8) + ((1 : Int32) + (0 : Int32)))) 80 9 = nI f from hfr) (by rw [ha180]; exact hy)) (fun x182 H182 q182 => ?_)
                  rcases q182 with ⟨rfl, hp182, qt182, qb182⟩ | ⟨rfl, hp182, qt182, qb182, qp182⟩
                  · -- (0 : Int32)
                    have ht182 := ht180.trans qt182
                    have hc182 : ps_mp (mu_i (mu_si H 80 8 ((mu_i H 80 8) + ((1 : Int32) + (0 : Int32)))) 80 6) = ps_mp (mu_i H 80 6) := congrArg ps_mp (show mu_i (mu_si H 80 8 ((mu_i H 80 8) + ((1 : Int32) + (0 : Int32)))) 80 6 = (mu_i H 80 6) from rfl)
                    exact mw_of (fun _ => mu_ret rfl (Or.inl rfl) ⟨_, H182, rfl, Or.inl ⟨rfl, hp182, ht182, by omega⟩⟩)
                  · -- (1 : Int32)
                    have ht182 := ht180.trans qt182
                    have hc182 : ps_mp (mu_i (mu_si H 80 8 ((mu_i H 80 8) + ((1 : Int32) + (0 : Int32)))) 80 6) = ps_mp (mu_i H 80 6) := congrArg ps_mp (show mu_i (mu_si H 80 8 ((mu_i H 80 8) + ((1 : Int32) + (0 : Int32)))) 80 6 = (mu_i H 80 6) from rfl)
                    exact mw_of (fun _ => mu_ret rfl (Or.inr rfl) ⟨_, H182, rfl, Or.inr ⟨rfl, hp182, ht182, by omega, qp182⟩⟩)
      · -- 27: not (20 : Int32) < (mu_i H 80 4)
        refine mw_go mu_g145 (k := 1) (f1 := (28, [(0, .inr (.inr (some 80)))], [.inr (.inr (some 80))], H)) (C := []) rfl trivial ?_
        refine mw_cI (fun _ => rfl) (show mu_is H (some 80) 7 from h.1.is rfl) (pb_prefix (d := (d + 2)) (B := B) h hBB (by omega) (show mu_i H 80 9 = nI f from hfr) hy (Or.inr ⟨h3, h93⟩)) (fun x183 H183 q183 => ?_)
        rcases q183 with ⟨rfl, hp183, qt183, qb183⟩ | ⟨rfl, hp183, qt183, qb183, qp183⟩
        · -- (0 : Int32)
          have ht183 := (pt.refl m B H).trans qt183
          have hc183 : ps_mp (mu_i H 80 6) = ps_mp (mu_i H 80 6) := congrArg ps_mp (show mu_i H 80 6 = (mu_i H 80 6) from rfl)
          exact mw_of (fun _ => mu_ret rfl (Or.inl rfl) ⟨_, H183, rfl, Or.inl ⟨rfl, hp183, ht183, by omega⟩⟩)
        · -- (1 : Int32)
          have ht183 := (pt.refl m B H).trans qt183
          have hc183 : ps_mp (mu_i H 80 6) = ps_mp (mu_i H 80 6) := congrArg ps_mp (show mu_i H 80 6 = (mu_i H 80 6) from rfl)
          exact mw_of (fun _ => mu_ret rfl (Or.inr rfl) ⟨_, H183, rfl, Or.inr ⟨rfl, hp183, ht183, by omega, qp183⟩⟩)
theorem pb_choice (h : ps m H) (hBB : B ≤ 1000000) (hB : ps_pot m H ≤ B + 80) {f : Nat} (hfr : mu_i H 80 9 = nI f) (hy : cy (ab m H) f [] true) (hm0 : mu_i H 80 6 = 7) : mu_TI (mu_D (d + 5)) 144 [.inr (.inr (some 80))] H (fun x H1 => (x = 0 ∧ ps m H1 ∧ pt m B H H1 ∧ ps_pot m H1 ≤ ps_pot m H + 60) ∨ (x = 1 ∧ ps m H1 ∧ pt m B H H1 ∧ ps_pot m H1 + 0 ≤ ps_pot m H ∧ PC m H1)) := by
  refine mu_meth (M := mu_m144) rfl rfl ?_
  refine mw_ht (mu_fn_of (show [0].Nodup by decide)) ?_
  refine mw_go mu_g144 (k := 3) (f1 := (6, [(0, .inr (.inr (some 80)))], [.inl (24 : Int32), .inl (mu_i H 80 4)], H)) (C := [mu_is H (some 80) 7]) rfl (show mu_is H (some 80) 7 from h.1.is rfl) ?_
  refine mw_if (P := (mu_i H 80 4) = (24 : Int32)) (a := 9) (b := 13) (fun _ => rfl) trivial (fun h1 => ?_) (fun h1 => ?_)
  · -- 9: (mu_i H 80 4) = (24 : Int32)
    refine mw_go mu_g144 (k := 8) (f1 := (24, [(1, .inl (2 : Int32)), (0, .inr (.inr (some 80)))], [.inl (150 : Int32), .inl ((mu_i H 80 8) + (2 : Int32))], H)) (C := [mu_is H (some 80) 7]) rfl (show mu_is H (some 80) 7 from h.1.is rfl) ?_
    refine mw_if (P := (150 : Int32) < ((mu_i H 80 8) + (2 : Int32))) (a := 27) (b := 29) (fun _ => rfl) trivial (fun h2 => ?_) (fun h2 => ?_)
    · -- 27: (150 : Int32) < ((mu_i H 80 8) + (2 : Int32))
      refine mw_go mu_g144 (k := 1) (f1 := (28, [(1, .inl (2 : Int32)), (0, .inr (.inr (some 80)))], [.inl (0 : Int32)], H)) (C := []) rfl trivial ?_
      exact mw_of (fun _ => mu_ret rfl (Or.inl rfl) ⟨_, H, rfl, Or.inl ⟨rfl, h, (pt.refl m B H), by omega⟩⟩)
    · -- 29: not (150 : Int32) < ((mu_i H 80 8) + (2 : Int32))
      refine mw_go mu_g144 (k := 12) (f1 := (50, [(1, .inl (2 : Int32)), (0, .inr (.inr (some 80)))], [.inl (66 : Int32), .inl (mu_i H 80 4)], (mu_si (mu_si H 80 8 ((mu_i H 80 8) + (2 : Int32))) 80 6 (5 : Int32)))) (C := [mu_is H (some 80) 7, mu_is H (some 80) 7, mu_is (mu_si H 80 8 ((mu_i H 80 8) + (2 : Int32))) (some 80) 7, mu_is (mu_si (mu_si H 80 8 ((mu_i H 80 8) + (2 : Int32))) 80 6 (5 : Int32)) (some 80) 7]) rfl (show (mu_is H (some 80) 7) ∧ (mu_is H (some 80) 7) ∧ (mu_is (mu_si H 80 8 ((mu_i H 80 8) + (2 : Int32))) (some 80) 7) ∧ (mu_is (mu_si (mu_si H 80 8 ((mu_i H 80 8) + (2 : Int32))) 80 6 (5 : Int32)) (some 80) 7) from ⟨h.1.is rfl, h.1.is rfl, h.1.is rfl, h.1.is rfl⟩) ?_
      refine mw_if (P := (mu_i H 80 4) = (66 : Int32)) (a := 53) (b := 67) (fun _ => rfl) trivial (fun h3 => ?_) (fun h3 => ?_)
      · -- 53: (mu_i H 80 4) = (66 : Int32)
        refine mw_go mu_g144 (k := 3) (f1 := (57, [(1, .inl (2 : Int32)), (0, .inr (.inr (some 80)))], [.inl (0 : Int32), .inl (50 : Int32), .inr (.inr (some 80))], (mu_si (mu_si H 80 8 ((mu_i H 80 8) + (2 : Int32))) 80 6 (5 : Int32)))) (C := []) rfl trivial ?_
        have hp4 : ps m (mu_si H 80 8 ((mu_i H 80 8) + (2 : Int32))) := h.si (by decide) (by decide)
        have ht4 : pt m B H (mu_si H 80 8 ((mu_i H 80 8) + (2 : Int32))) := (pt.refl m B H).trans (pt.si h)
        have ha4 : ab m (mu_si H 80 8 ((mu_i H 80 8) + (2 : Int32))) = (ab m H) := ab_si h.1 h.2.1
        have hb4 : ps_pot m (mu_si H 80 8 ((mu_i H 80 8) + (2 : Int32))) = ps_pot m H := ps_potj h ((mu_i H 80 8) + (2 : Int32)) (by decide) (by decide)
        have hs4 : gi_sz (mu_si H 80 8 ((mu_i H 80 8) + (2 : Int32))) 89 = gi_sz H 89 := rfl
        have hp5 : ps m (mu_si (mu_si H 80 8 ((mu_i H 80 8) + (2 : Int32))) 80 6 (5 : Int32)) := hp4.si (by decide) (by decide)
        have ht5 : pt m B H (mu_si (mu_si H 80 8 ((mu_i H 80 8) + (2 : Int32))) 80 6 (5 : Int32)) := ht4.trans (pt.si hp4)
        have ha5 : ab m (mu_si (mu_si H 80 8 ((mu_i H 80 8) + (2 : Int32))) 80 6 (5 : Int32)) = (ab m H) := (ab_si hp4.1 hp4.2.1).trans ha4
        have hb5 : ps_pot m (mu_si (mu_si H 80 8 ((mu_i H 80 8) + (2 : Int32))) 80 6 (5 : Int32)) + ps_mp (mu_i (mu_si H 80 8 ((mu_i H 80 8) + (2 : Int32))) 80 6) = ps_pot m (mu_si H 80 8 ((mu_i H 80 8) + (2 : Int32))) + 0 := ps_pot6 hp4 (5 : Int32)
        have hc5 : ps_mp (mu_i (mu_si H 80 8 ((mu_i H 80 8) + (2 : Int32))) 80 6) = 4 := by rw [show mu_i (mu_si H 80 8 ((mu_i H 80 8) + (2 : Int32))) 80 6 = (7 : Int32) from hm0]; rfl
        have hs5 : gi_sz (mu_si (mu_si H 80 8 ((mu_i H 80 8) + (2 : Int32))) 80 6 (5 : Int32)) 89 = gi_sz (mu_si H 80 8 ((mu_i H 80 8) + (2 : Int32))) 89 := rfl
        refine mw_cV (fun _ => rfl) (show mu_is (mu_si (mu_si H 80 8 ((mu_i H 80 8) + (2 : Int32))) 80 6 (5 : Int32)) (some 80) 7 from hp5.1.is rfl) (pb_push (d := d) (B := B) hp5 hBB (by omega) (50 : Int32) (0 : Int32) ⟨50, by decide, rfl⟩) (fun H7 q7 => ?_)
        obtain ⟨hp7, qt7, qi7, qs7, qb7, qa7⟩ := q7
        have ht7 := ht5.trans qt7
        have ha7 : ab m H7 = (tp 11 (ab m H) (50 : Int32) (0 : Int32) 0 0) := qa7.trans (by rw [ha5])
        refine mw_go mu_g144 (k := 1) (f1 := (61, [(1, .inl (2 : Int32)), (0, .inr (.inr (some 80)))], [.inr (.inr (some 80))], H7)) (C := []) rfl trivial ?_
        refine mw_cV (fun _ => rfl) (show mu_is H7 (some 80) 7 from hp7.1.is rfl) (pb_adv (d := (d + 2)) (B := B) hp7) (fun H8 q8 => ?_)
        obtain ⟨⟨hp8, qt8, qk8, qb8, qc8⟩, qa8⟩ := q8
        have ht8 := ht7.trans qt8
        have qs8 : gi_sz H8 89 = gi_sz H7 89 := qk8.2
        have ha8 : ab m H8 = (tp 11 (ab m H) (50 : Int32) (0 : Int32) 0 0) := qa8.trans (by rw [ha7])
        have qd8 := qc8 (show mu_i H7 80 4 < 114 from (by rw [(qi7 4)]; exact (show (mu_i H 80 4) < 114 from (by rw [h3]; decide))))
        refine mw_go mu_g144 (k := 2) (f1 := (98, [(1, .inl (2 : Int32)), (0, .inr (.inr (some 80)))], [.inl (1 : Int32)], H8)) (C := []) rfl trivial ?_
        exact mw_of (fun _ => mu_ret rfl (Or.inr rfl) ⟨_, H8, rfl, Or.inr ⟨rfl, hp8, ht8, by omega, (PC_c (show mu_i H8 80 6 = 5 from ((qk8.1 6 (by decide)).trans (qi7 6))) (show mu_i H8 80 9 = nI f from (((qk8.1 9 (by decide)).trans (qi7 9)).trans hfr)) ha8 (hy.p50 (q := 50) (by decide)) (Or.inl ⟨Or.inl rfl, rfl, rfl⟩))⟩⟩)
      · -- 67: not (mu_i H 80 4) = (66 : Int32)
        refine mw_go mu_g144 (k := 3) (f1 := (73, [(1, .inl (2 : Int32)), (0, .inr (.inr (some 80)))], [.inl (24 : Int32), .inl (mu_i H 80 4)], (mu_si (mu_si H 80 8 ((mu_i H 80 8) + (2 : Int32))) 80 6 (5 : Int32)))) (C := [mu_is (mu_si (mu_si H 80 8 ((mu_i H 80 8) + (2 : Int32))) 80 6 (5 : Int32)) (some 80) 7]) rfl (show mu_is (mu_si (mu_si H 80 8 ((mu_i H 80 8) + (2 : Int32))) 80 6 (5 : Int32)) (some 80) 7 from h.1.is rfl) ?_
        refine mw_if (P := (mu_i H 80 4) = (24 : Int32)) (a := 76) (b := 90) (fun _ => rfl) trivial (fun _ => ?_) (fun h9 => absurd h1 h9)
        refine mw_go mu_g144 (k := 3) (f1 := (80, [(1, .inl (2 : Int32)), (0, .inr (.inr (some 80)))], [.inl (0 : Int32), .inl (52 : Int32), .inr (.inr (some 80))], (mu_si (mu_si H 80 8 ((mu_i H 80 8) + (2 : Int32))) 80 6 (5 : Int32)))) (C := []) rfl trivial ?_
        have hp10 : ps m (mu_si H 80 8 ((mu_i H 80 8) + (2 : Int32))) := h.si (by decide) (by decide)
        have ht10 : pt m B H (mu_si H 80 8 ((mu_i H 80 8) + (2 : Int32))) := (pt.refl m B H).trans (pt.si h)
        have ha10 : ab m (mu_si H 80 8 ((mu_i H 80 8) + (2 : Int32))) = (ab m H) := ab_si h.1 h.2.1
        have hb10 : ps_pot m (mu_si H 80 8 ((mu_i H 80 8) + (2 : Int32))) = ps_pot m H := ps_potj h ((mu_i H 80 8) + (2 : Int32)) (by decide) (by decide)
        have hs10 : gi_sz (mu_si H 80 8 ((mu_i H 80 8) + (2 : Int32))) 89 = gi_sz H 89 := rfl
        have hp11 : ps m (mu_si (mu_si H 80 8 ((mu_i H 80 8) + (2 : Int32))) 80 6 (5 : Int32)) := hp10.si (by decide) (by decide)
        have ht11 : pt m B H (mu_si (mu_si H 80 8 ((mu_i H 80 8) + (2 : Int32))) 80 6 (5 : Int32)) := ht10.trans (pt.si hp10)
        have ha11 : ab m (mu_si (mu_si H 80 8 ((mu_i H 80 8) + (2 : Int32))) 80 6 (5 : Int32)) = (ab m H) := (ab_si hp10.1 hp10.2.1).trans ha10
        have hb11 : ps_pot m (mu_si (mu_si H 80 8 ((mu_i H 80 8) + (2 : Int32))) 80 6 (5 : Int32)) + ps_mp (mu_i (mu_si H 80 8 ((mu_i H 80 8) + (2 : Int32))) 80 6) = ps_pot m (mu_si H 80 8 ((mu_i H 80 8) + (2 : Int32))) + 0 := ps_pot6 hp10 (5 : Int32)
        have hc11 : ps_mp (mu_i (mu_si H 80 8 ((mu_i H 80 8) + (2 : Int32))) 80 6) = 4 := by rw [show mu_i (mu_si H 80 8 ((mu_i H 80 8) + (2 : Int32))) 80 6 = (7 : Int32) from hm0]; rfl
        have hs11 : gi_sz (mu_si (mu_si H 80 8 ((mu_i H 80 8) + (2 : Int32))) 80 6 (5 : Int32)) 89 = gi_sz (mu_si H 80 8 ((mu_i H 80 8) + (2 : Int32))) 89 := rfl
        refine mw_cV (fun _ => rfl) (show mu_is (mu_si (mu_si H 80 8 ((mu_i H 80 8) + (2 : Int32))) 80 6 (5 : Int32)) (some 80) 7 from hp11.1.is rfl) (pb_push (d := d) (B := B) hp11 hBB (by omega) (52 : Int32) (0 : Int32) ⟨52, by decide, rfl⟩) (fun H13 q13 => ?_)
        obtain ⟨hp13, qt13, qi13, qs13, qb13, qa13⟩ := q13
        have ht13 := ht11.trans qt13
        have ha13 : ab m H13 = (tp 11 (ab m H) (52 : Int32) (0 : Int32) 0 0) := qa13.trans (by rw [ha11])
        refine mw_go mu_g144 (k := 1) (f1 := (84, [(1, .inl (2 : Int32)), (0, .inr (.inr (some 80)))], [.inr (.inr (some 80))], H13)) (C := []) rfl trivial ?_
        refine mw_cV (fun _ => rfl) (show mu_is H13 (some 80) 7 from hp13.1.is rfl) (pb_adv (d := (d + 2)) (B := B) hp13) (fun H14 q14 => ?_)
        obtain ⟨⟨hp14, qt14, qk14, qb14, qc14⟩, qa14⟩ := q14
        have ht14 := ht13.trans qt14
        have qs14 : gi_sz H14 89 = gi_sz H13 89 := qk14.2
        have ha14 : ab m H14 = (tp 11 (ab m H) (52 : Int32) (0 : Int32) 0 0) := qa14.trans (by rw [ha13])
        have qd14 := qc14 (show mu_i H13 80 4 < 114 from (by rw [(qi13 4)]; exact (show (mu_i H 80 4) < 114 from (by rw [h1]; decide))))
        refine mw_go mu_g144 (k := 2) (f1 := (98, [(1, .inl (2 : Int32)), (0, .inr (.inr (some 80)))], [.inl (1 : Int32)], H14)) (C := []) rfl trivial ?_
        exact mw_of (fun _ => mu_ret rfl (Or.inr rfl) ⟨_, H14, rfl, Or.inr ⟨rfl, hp14, ht14, by omega, (PC_c (show mu_i H14 80 6 = 5 from ((qk14.1 6 (by decide)).trans (qi13 6))) (show mu_i H14 80 9 = nI f from (((qk14.1 9 (by decide)).trans (qi13 9)).trans hfr)) ha14 (hy.p50 (q := 52) (by decide)) (Or.inl ⟨Or.inl rfl, rfl, rfl⟩))⟩⟩)
  · -- 13: not (mu_i H 80 4) = (24 : Int32)
    refine mw_go mu_g144 (k := 7) (f1 := (24, [(1, .inl (1 : Int32)), (0, .inr (.inr (some 80)))], [.inl (150 : Int32), .inl ((mu_i H 80 8) + (1 : Int32))], H)) (C := [mu_is H (some 80) 7]) rfl (show mu_is H (some 80) 7 from h.1.is rfl) ?_
    refine mw_if (P := (150 : Int32) < ((mu_i H 80 8) + (1 : Int32))) (a := 27) (b := 29) (fun _ => rfl) trivial (fun h15 => ?_) (fun h15 => ?_)
    · -- 27: (150 : Int32) < ((mu_i H 80 8) + (1 : Int32))
      refine mw_go mu_g144 (k := 1) (f1 := (28, [(1, .inl (1 : Int32)), (0, .inr (.inr (some 80)))], [.inl (0 : Int32)], H)) (C := []) rfl trivial ?_
      exact mw_of (fun _ => mu_ret rfl (Or.inl rfl) ⟨_, H, rfl, Or.inl ⟨rfl, h, (pt.refl m B H), by omega⟩⟩)
    · -- 29: not (150 : Int32) < ((mu_i H 80 8) + (1 : Int32))
      refine mw_go mu_g144 (k := 12) (f1 := (50, [(1, .inl (1 : Int32)), (0, .inr (.inr (some 80)))], [.inl (66 : Int32), .inl (mu_i H 80 4)], (mu_si (mu_si H 80 8 ((mu_i H 80 8) + (1 : Int32))) 80 6 (5 : Int32)))) (C := [mu_is H (some 80) 7, mu_is H (some 80) 7, mu_is (mu_si H 80 8 ((mu_i H 80 8) + (1 : Int32))) (some 80) 7, mu_is (mu_si (mu_si H 80 8 ((mu_i H 80 8) + (1 : Int32))) 80 6 (5 : Int32)) (some 80) 7]) rfl (show (mu_is H (some 80) 7) ∧ (mu_is H (some 80) 7) ∧ (mu_is (mu_si H 80 8 ((mu_i H 80 8) + (1 : Int32))) (some 80) 7) ∧ (mu_is (mu_si (mu_si H 80 8 ((mu_i H 80 8) + (1 : Int32))) 80 6 (5 : Int32)) (some 80) 7) from ⟨h.1.is rfl, h.1.is rfl, h.1.is rfl, h.1.is rfl⟩) ?_
      refine mw_if (P := (mu_i H 80 4) = (66 : Int32)) (a := 53) (b := 67) (fun _ => rfl) trivial (fun h16 => ?_) (fun h16 => ?_)
      · -- 53: (mu_i H 80 4) = (66 : Int32)
        refine mw_go mu_g144 (k := 3) (f1 := (57, [(1, .inl (1 : Int32)), (0, .inr (.inr (some 80)))], [.inl (0 : Int32), .inl (50 : Int32), .inr (.inr (some 80))], (mu_si (mu_si H 80 8 ((mu_i H 80 8) + (1 : Int32))) 80 6 (5 : Int32)))) (C := []) rfl trivial ?_
        have hp17 : ps m (mu_si H 80 8 ((mu_i H 80 8) + (1 : Int32))) := h.si (by decide) (by decide)
        have ht17 : pt m B H (mu_si H 80 8 ((mu_i H 80 8) + (1 : Int32))) := (pt.refl m B H).trans (pt.si h)
        have ha17 : ab m (mu_si H 80 8 ((mu_i H 80 8) + (1 : Int32))) = (ab m H) := ab_si h.1 h.2.1
        have hb17 : ps_pot m (mu_si H 80 8 ((mu_i H 80 8) + (1 : Int32))) = ps_pot m H := ps_potj h ((mu_i H 80 8) + (1 : Int32)) (by decide) (by decide)
        have hs17 : gi_sz (mu_si H 80 8 ((mu_i H 80 8) + (1 : Int32))) 89 = gi_sz H 89 := rfl
        have hp18 : ps m (mu_si (mu_si H 80 8 ((mu_i H 80 8) + (1 : Int32))) 80 6 (5 : Int32)) := hp17.si (by decide) (by decide)
        have ht18 : pt m B H (mu_si (mu_si H 80 8 ((mu_i H 80 8) + (1 : Int32))) 80 6 (5 : Int32)) := ht17.trans (pt.si hp17)
        have ha18 : ab m (mu_si (mu_si H 80 8 ((mu_i H 80 8) + (1 : Int32))) 80 6 (5 : Int32)) = (ab m H) := (ab_si hp17.1 hp17.2.1).trans ha17
        have hb18 : ps_pot m (mu_si (mu_si H 80 8 ((mu_i H 80 8) + (1 : Int32))) 80 6 (5 : Int32)) + ps_mp (mu_i (mu_si H 80 8 ((mu_i H 80 8) + (1 : Int32))) 80 6) = ps_pot m (mu_si H 80 8 ((mu_i H 80 8) + (1 : Int32))) + 0 := ps_pot6 hp17 (5 : Int32)
        have hc18 : ps_mp (mu_i (mu_si H 80 8 ((mu_i H 80 8) + (1 : Int32))) 80 6) = 4 := by rw [show mu_i (mu_si H 80 8 ((mu_i H 80 8) + (1 : Int32))) 80 6 = (7 : Int32) from hm0]; rfl
        have hs18 : gi_sz (mu_si (mu_si H 80 8 ((mu_i H 80 8) + (1 : Int32))) 80 6 (5 : Int32)) 89 = gi_sz (mu_si H 80 8 ((mu_i H 80 8) + (1 : Int32))) 89 := rfl
        refine mw_cV (fun _ => rfl) (show mu_is (mu_si (mu_si H 80 8 ((mu_i H 80 8) + (1 : Int32))) 80 6 (5 : Int32)) (some 80) 7 from hp18.1.is rfl) (pb_push (d := d) (B := B) hp18 hBB (by omega) (50 : Int32) (0 : Int32) ⟨50, by decide, rfl⟩) (fun H20 q20 => ?_)
        obtain ⟨hp20, qt20, qi20, qs20, qb20, qa20⟩ := q20
        have ht20 := ht18.trans qt20
        have ha20 : ab m H20 = (tp 11 (ab m H) (50 : Int32) (0 : Int32) 0 0) := qa20.trans (by rw [ha18])
        refine mw_go mu_g144 (k := 1) (f1 := (61, [(1, .inl (1 : Int32)), (0, .inr (.inr (some 80)))], [.inr (.inr (some 80))], H20)) (C := []) rfl trivial ?_
        refine mw_cV (fun _ => rfl) (show mu_is H20 (some 80) 7 from hp20.1.is rfl) (pb_adv (d := (d + 2)) (B := B) hp20) (fun H21 q21 => ?_)
        obtain ⟨⟨hp21, qt21, qk21, qb21, qc21⟩, qa21⟩ := q21
        have ht21 := ht20.trans qt21
        have qs21 : gi_sz H21 89 = gi_sz H20 89 := qk21.2
        have ha21 : ab m H21 = (tp 11 (ab m H) (50 : Int32) (0 : Int32) 0 0) := qa21.trans (by rw [ha20])
        have qd21 := qc21 (show mu_i H20 80 4 < 114 from (by rw [(qi20 4)]; exact (show (mu_i H 80 4) < 114 from (by rw [h16]; decide))))
        refine mw_go mu_g144 (k := 2) (f1 := (98, [(1, .inl (1 : Int32)), (0, .inr (.inr (some 80)))], [.inl (1 : Int32)], H21)) (C := []) rfl trivial ?_
        exact mw_of (fun _ => mu_ret rfl (Or.inr rfl) ⟨_, H21, rfl, Or.inr ⟨rfl, hp21, ht21, by omega, (PC_c (show mu_i H21 80 6 = 5 from ((qk21.1 6 (by decide)).trans (qi20 6))) (show mu_i H21 80 9 = nI f from (((qk21.1 9 (by decide)).trans (qi20 9)).trans hfr)) ha21 (hy.p50 (q := 50) (by decide)) (Or.inl ⟨Or.inl rfl, rfl, rfl⟩))⟩⟩)
      · -- 67: not (mu_i H 80 4) = (66 : Int32)
        refine mw_go mu_g144 (k := 3) (f1 := (73, [(1, .inl (1 : Int32)), (0, .inr (.inr (some 80)))], [.inl (24 : Int32), .inl (mu_i H 80 4)], (mu_si (mu_si H 80 8 ((mu_i H 80 8) + (1 : Int32))) 80 6 (5 : Int32)))) (C := [mu_is (mu_si (mu_si H 80 8 ((mu_i H 80 8) + (1 : Int32))) 80 6 (5 : Int32)) (some 80) 7]) rfl (show mu_is (mu_si (mu_si H 80 8 ((mu_i H 80 8) + (1 : Int32))) 80 6 (5 : Int32)) (some 80) 7 from h.1.is rfl) ?_
        refine mw_if (P := (mu_i H 80 4) = (24 : Int32)) (a := 76) (b := 90) (fun _ => rfl) trivial (fun h22 => absurd h22 h1) (fun _ => ?_)
        refine mw_go mu_g144 (k := 3) (f1 := (94, [(1, .inl (1 : Int32)), (0, .inr (.inr (some 80)))], [.inl (0 : Int32), .inl (51 : Int32), .inr (.inr (some 80))], (mu_si (mu_si H 80 8 ((mu_i H 80 8) + (1 : Int32))) 80 6 (5 : Int32)))) (C := []) rfl trivial ?_
        have hp23 : ps m (mu_si H 80 8 ((mu_i H 80 8) + (1 : Int32))) := h.si (by decide) (by decide)
        have ht23 : pt m B H (mu_si H 80 8 ((mu_i H 80 8) + (1 : Int32))) := (pt.refl m B H).trans (pt.si h)
        have ha23 : ab m (mu_si H 80 8 ((mu_i H 80 8) + (1 : Int32))) = (ab m H) := ab_si h.1 h.2.1
        have hb23 : ps_pot m (mu_si H 80 8 ((mu_i H 80 8) + (1 : Int32))) = ps_pot m H := ps_potj h ((mu_i H 80 8) + (1 : Int32)) (by decide) (by decide)
        have hs23 : gi_sz (mu_si H 80 8 ((mu_i H 80 8) + (1 : Int32))) 89 = gi_sz H 89 := rfl
        have hp24 : ps m (mu_si (mu_si H 80 8 ((mu_i H 80 8) + (1 : Int32))) 80 6 (5 : Int32)) := hp23.si (by decide) (by decide)
        have ht24 : pt m B H (mu_si (mu_si H 80 8 ((mu_i H 80 8) + (1 : Int32))) 80 6 (5 : Int32)) := ht23.trans (pt.si hp23)
        have ha24 : ab m (mu_si (mu_si H 80 8 ((mu_i H 80 8) + (1 : Int32))) 80 6 (5 : Int32)) = (ab m H) := (ab_si hp23.1 hp23.2.1).trans ha23
        have hb24 : ps_pot m (mu_si (mu_si H 80 8 ((mu_i H 80 8) + (1 : Int32))) 80 6 (5 : Int32)) + ps_mp (mu_i (mu_si H 80 8 ((mu_i H 80 8) + (1 : Int32))) 80 6) = ps_pot m (mu_si H 80 8 ((mu_i H 80 8) + (1 : Int32))) + 0 := ps_pot6 hp23 (5 : Int32)
        have hc24 : ps_mp (mu_i (mu_si H 80 8 ((mu_i H 80 8) + (1 : Int32))) 80 6) = 4 := by rw [show mu_i (mu_si H 80 8 ((mu_i H 80 8) + (1 : Int32))) 80 6 = (7 : Int32) from hm0]; rfl
        have hs24 : gi_sz (mu_si (mu_si H 80 8 ((mu_i H 80 8) + (1 : Int32))) 80 6 (5 : Int32)) 89 = gi_sz (mu_si H 80 8 ((mu_i H 80 8) + (1 : Int32))) 89 := rfl
        refine mw_cV (fun _ => rfl) (show mu_is (mu_si (mu_si H 80 8 ((mu_i H 80 8) + (1 : Int32))) 80 6 (5 : Int32)) (some 80) 7 from hp24.1.is rfl) (pb_push (d := d) (B := B) hp24 hBB (by omega) (51 : Int32) (0 : Int32) ⟨51, by decide, rfl⟩) (fun H26 q26 => ?_)
        obtain ⟨hp26, qt26, qi26, qs26, qb26, qa26⟩ := q26
        have ht26 := ht24.trans qt26
        have ha26 : ab m H26 = (tp 11 (ab m H) (51 : Int32) (0 : Int32) 0 0) := qa26.trans (by rw [ha24])
        refine mw_go mu_g144 (k := 1) (f1 := (98, [(1, .inl (1 : Int32)), (0, .inr (.inr (some 80)))], [.inl (1 : Int32)], H26)) (C := []) rfl trivial ?_
        exact mw_of (fun _ => mu_ret rfl (Or.inr rfl) ⟨_, H26, rfl, Or.inr ⟨rfl, hp26, ht26, by omega, (PC_c (show mu_i H26 80 6 = 5 from (qi26 6)) (show mu_i H26 80 9 = nI f from ((qi26 9).trans hfr)) ha26 (hy.p50 (q := 51) (by decide)) (Or.inl ⟨Or.inl rfl, rfl, rfl⟩))⟩⟩)
theorem pb_chended (h : ps m H) (hBB : B ≤ 1000000) (hB : ps_pot m H ≤ B + 80) {f : Nat} (hfr : mu_i H 80 9 = nI f) (hy : cy (ab m H) f [true] true) (hm0 : mu_i H 80 6 = 9) : mu_TI (mu_D (d + 5)) 143 [.inr (.inr (some 80))] H (fun x H1 => (x = 0 ∧ ps m H1 ∧ pt m B H H1 ∧ ps_pot m H1 ≤ ps_pot m H + 60) ∨ (x = 1 ∧ ps m H1 ∧ pt m B H H1 ∧ ps_pot m H1 + 0 ≤ ps_pot m H ∧ PC m H1)) := by
  refine mu_meth (M := mu_m143) rfl rfl ?_
  refine mw_ht (mu_fn_of (show [0].Nodup by decide)) ?_
  refine mw_go mu_g143 (k := 7) (f1 := (11, [(0, .inr (.inr (some 80)))], [.inr (.inr (some 80))], (mu_si H 80 8 ((mu_i H 80 8) - (1 : Int32))))) (C := [mu_is H (some 80) 7, mu_is H (some 80) 7]) rfl (show (mu_is H (some 80) 7) ∧ (mu_is H (some 80) 7) from ⟨h.1.is rfl, h.1.is rfl⟩) ?_
  have hp1 : ps m (mu_si H 80 8 ((mu_i H 80 8) - (1 : Int32))) := h.si (by decide) (by decide)
  have ht1 : pt m B H (mu_si H 80 8 ((mu_i H 80 8) - (1 : Int32))) := (pt.refl m B H).trans (pt.si h)
  have ha1 : ab m (mu_si H 80 8 ((mu_i H 80 8) - (1 : Int32))) = (ab m H) := ab_si h.1 h.2.1
  have hb1 : ps_pot m (mu_si H 80 8 ((mu_i H 80 8) - (1 : Int32))) = ps_pot m H := ps_potj h ((mu_i H 80 8) - (1 : Int32)) (by decide) (by decide)
  have hs1 : gi_sz (mu_si H 80 8 ((mu_i H 80 8) - (1 : Int32))) 89 = gi_sz H 89 := rfl
  have hi2_6 : mu_i (mu_si H 80 8 ((mu_i H 80 8) - (1 : Int32))) 80 6 = (9 : Int32) := hm0
  refine mw_cIe (fun _ => rfl) (show mu_is (mu_si H 80 8 ((mu_i H 80 8) - (1 : Int32))) (some 80) 7 from hp1.1.is rfl) (pa_top (d := (d + 2)) hp1) ?_
  refine mw_go mu_g143 (k := 1) (f1 := (16, [(0, .inr (.inr (some 80)))], [.inl (43 : Int32), .inl (ps_top (mu_si H 80 8 ((mu_i H 80 8) - (1 : Int32))))], (mu_si H 80 8 ((mu_i H 80 8) - (1 : Int32))))) (C := []) rfl trivial ?_
  refine mw_if (P := (ps_top (mu_si H 80 8 ((mu_i H 80 8) - (1 : Int32)))) = (43 : Int32)) (a := 19) (b := 58) (fun _ => rfl) trivial (fun h4 => ?_) (fun h4 => ?_)
  · -- 19: (ps_top (mu_si H 80 8 ((mu_i H 80 8) - (1 : Int32)))) = (43 : Int32)
    have hz4 := ps_top_sz hp1 h4 (by decide)
    refine mw_go mu_g143 (k := 2) (f1 := (23, [(0, .inr (.inr (some 80)))], [.inr (.inr (mu_r (mu_si H 80 8 ((mu_i H 80 8) - (1 : Int32))) 80 2))], (mu_si H 80 8 ((mu_i H 80 8) - (1 : Int32))))) (C := [mu_is (mu_si H 80 8 ((mu_i H 80 8) - (1 : Int32))) (some 80) 7]) rfl (show mu_is (mu_si H 80 8 ((mu_i H 80 8) - (1 : Int32))) (some 80) 7 from hp1.1.is rfl) ?_
    rw [hp1.m80]
    refine mw_go mu_g143 (k := 1) (f1 := (26, [(0, .inr (.inr (some 80)))], [.inr (.inr (mu_r (mu_si H 80 8 ((mu_i H 80 8) - (1 : Int32))) m 7))], (mu_si H 80 8 ((mu_i H 80 8) - (1 : Int32))))) (C := [mu_is (mu_si H 80 8 ((mu_i H 80 8) - (1 : Int32))) (some m) 6]) rfl (show mu_is (mu_si H 80 8 ((mu_i H 80 8) - (1 : Int32))) (some m) 6 from hp1.im) ?_
    rw [hp1.r7]
    refine mw_go mu_g143 (k := 8) (f1 := (42, [(0, .inr (.inr (some 80)))], [.inr (.inr (mu_r (mu_si H 80 8 ((mu_i H 80 8) - (1 : Int32))) 80 2)), .inl (mu_i H 80 9), .inl (mu_i H 80 10), .inl (mu_i H 80 11), .inr (.inr (some (m + 15)))], (mu_si H 80 8 ((mu_i H 80 8) - (1 : Int32))))) (C := [mu_is (mu_si H 80 8 ((mu_i H 80 8) - (1 : Int32))) (some 80) 7, mu_is (mu_si H 80 8 ((mu_i H 80 8) - (1 : Int32))) (some 80) 7, mu_is (mu_si H 80 8 ((mu_i H 80 8) - (1 : Int32))) (some 80) 7, mu_is (mu_si H 80 8 ((mu_i H 80 8) - (1 : Int32))) (some 80) 7]) rfl (show (mu_is (mu_si H 80 8 ((mu_i H 80 8) - (1 : Int32))) (some 80) 7) ∧ (mu_is (mu_si H 80 8 ((mu_i H 80 8) - (1 : Int32))) (some 80) 7) ∧ (mu_is (mu_si H 80 8 ((mu_i H 80 8) - (1 : Int32))) (some 80) 7) ∧ (mu_is (mu_si H 80 8 ((mu_i H 80 8) - (1 : Int32))) (some 80) 7) from ⟨hp1.1.is rfl, hp1.1.is rfl, hp1.1.is rfl, hp1.1.is rfl⟩) ?_
    rw [hp1.m80]
    refine mw_go mu_g143 (k := 1) (f1 := (45, [(0, .inr (.inr (some 80)))], [.inr (.inr (mu_r (mu_si H 80 8 ((mu_i H 80 8) - (1 : Int32))) m 0)), .inl (mu_i H 80 9), .inl (mu_i H 80 10), .inl (mu_i H 80 11), .inr (.inr (some (m + 15)))], (mu_si H 80 8 ((mu_i H 80 8) - (1 : Int32))))) (C := [mu_is (mu_si H 80 8 ((mu_i H 80 8) - (1 : Int32))) (some m) 6]) rfl (show mu_is (mu_si H 80 8 ((mu_i H 80 8) - (1 : Int32))) (some m) 6 from hp1.im) ?_
    rw [hp1.r0]
    refine mw_go mu_g143 (k := 1) (f1 := (48, [(0, .inr (.inr (some 80)))], [.inl (mu_i (mu_si H 80 8 ((mu_i H 80 8) - (1 : Int32))) (m + 1) 2), .inl (mu_i H 80 9), .inl (mu_i H 80 10), .inl (mu_i H 80 11), .inr (.inr (some (m + 15)))], (mu_si H 80 8 ((mu_i H 80 8) - (1 : Int32))))) (C := [mu_is (mu_si H 80 8 ((mu_i H 80 8) - (1 : Int32))) (some (m + 1)) 10]) rfl (show mu_is (mu_si H 80 8 ((mu_i H 80 8) - (1 : Int32))) (some (m + 1)) 10 from hp1.i0) ?_
    refine mw_cI (fun _ => rfl) (show mu_is (mu_si H 80 8 ((mu_i H 80 8) - (1 : Int32))) (some (m + 15)) 10 from hp1.i7) (pb_put7 (d := (d + 1)) (B := B) hp1 (by omega) (mu_i H 80 11) (mu_i H 80 10) (mu_i H 80 9) (mu_i (mu_si H 80 8 ((mu_i H 80 8) - (1 : Int32))) (m + 1) 2)) (fun x5 H5 q5 => ?_)
    obtain ⟨hp5, qt5, qx5, qi5, qs5, qb5, qa5⟩ := q5
    obtain rfl : x5 = nI ((ab m H) 7).1 := by rw [← ha1]; exact qx5
    have ht5 := ht1.trans qt5
    have ha5 : ab m H5 = (tp 7 (ab m H) (mu_i H 80 11) (mu_i H 80 10) (nI f) (nI ((ab m H) 0).1)) := qa5.trans (by rw [ha1, hfr, (show mu_i (mu_si H 80 8 ((mu_i H 80 8) - (1 : Int32))) (m + 1) 2 = nI ((ab m H) 0).1 from sz_n hp1 ha1 (j := 0) (by decide))])
    refine mw_go mu_g143 (k := 3) (f1 := (54, [(0, .inr (.inr (some 80)))], [.inl (4 : Int32), .inr (.inr (some 80))], H5)) (C := []) rfl trivial ?_
    refine mw_cI (fun _ => rfl) (show mu_is H5 (some 80) 7 from hp5.1.is rfl) (pb_item (d := d) (B := B) hp5 (4 : Int32)) (fun x6 H6 q6 => ?_)
    rcases q6 with ⟨rfl, hp6, qt6, qb6⟩ | ⟨rfl, hp6, qt6, qb6, qm6, qa6⟩
    · -- (0 : Int32)
      have ht6 := ht5.trans qt6
      have hc6 : ps_mp (mu_i H5 80 6) = 0 := by rw [show mu_i H5 80 6 = (9 : Int32) from ((qi5 6).trans hi2_6)]; rfl
      have hw6 : ps_mp (4 : Int32) = 0 := rfl
      exact mw_of (fun _ => mu_ret rfl (Or.inl rfl) ⟨_, H6, rfl, Or.inl ⟨rfl, hp6, ht6, by omega⟩⟩)
    · -- (1 : Int32)
      have ht6 := ht5.trans qt6
      have hc6 : ps_mp (mu_i H5 80 6) = 0 := by rw [show mu_i H5 80 6 = (9 : Int32) from ((qi5 6).trans hi2_6)]; rfl
      have hw6 : ps_mp (4 : Int32) = 0 := rfl
      have ha6 : ab m H6 = (td (tp 7 (ab m H) (mu_i H 80 11) (mu_i H 80 10) (nI f) (nI ((ab m H) 0).1))) := qa6.trans (by rw [ha5])
      exact mw_of (fun _ => mu_ret rfl (Or.inr rfl) ⟨_, H6, rfl, Or.inr ⟨rfl, hp6, ht6, by omega, (PC_0 (show mu_i H6 80 6 = 4 from qm6) ha6 (hy.eline (tq_top hp1 ha1 (k := 43) h4 (by decide))).1 (Nat.le_of_succ_le (pot_b (m := m) (H := H6) ha6 (by omega))) (by show (ab m H 11).1 - 1 = 0; have z := (hy.eone (tq_top hp1 ha1 (k := 43) h4 (by decide)) (by decide) (by decide)).1; omega) (Or.inr ⟨by decide, (hy.eone (tq_top hp1 ha1 (k := 43) h4 (by decide)) (by decide) (by decide)).2⟩))⟩⟩)
  · -- 58: not (ps_top (mu_si H 80 8 ((mu_i H 80 8) - (1 : Int32)))) = (43 : Int32)
    refine mw_go mu_g143 (k := 1) (f1 := (59, [(0, .inr (.inr (some 80)))], [.inr (.inr (some 80))], (mu_si H 80 8 ((mu_i H 80 8) - (1 : Int32))))) (C := []) rfl trivial ?_
    refine mw_cIe (fun _ => rfl) (show mu_is (mu_si H 80 8 ((mu_i H 80 8) - (1 : Int32))) (some 80) 7 from hp1.1.is rfl) (pb_note (d := (d + 2)) hp1 ha1) ?_
    refine mw_go mu_g143 (k := 5) (f1 := (68, [(1, .inl ((tn (ab m H)) + (1 : Int32))), (0, .inr (.inr (some 80)))], [.inl (71 : Int32), .inr (.inr (some 80))], (mu_si H 80 8 ((mu_i H 80 8) - (1 : Int32))))) (C := []) rfl trivial ?_
    refine mw_cI (fun _ => rfl) (show mu_is (mu_si H 80 8 ((mu_i H 80 8) - (1 : Int32))) (some 80) 7 from hp1.1.is rfl) (pb_take (d := (d + 1)) (B := B) hp1 (71 : Int32) (by decide)) (fun x8 H8 q8 => ?_)
    rcases q8 with ⟨rfl, rfl, qe8⟩ | ⟨rfl, hp8, qt8, qk8, qb8, qe8, qa8⟩
    · -- (0 : Int32)
      refine mw_if (P := (0 : Int32) = 0) (a := 74) (b := 76) (fun _ => rfl) trivial (fun h9 => ?_) (fun h9 => absurd (by decide) h9)
      refine mw_go mu_g143 (k := 1) (f1 := (75, [(1, .inl ((tn (ab m H)) + (1 : Int32))), (0, .inr (.inr (some 80)))], [.inl (0 : Int32)], (mu_si H 80 8 ((mu_i H 80 8) - (1 : Int32))))) (C := []) rfl trivial ?_
      exact mw_of (fun _ => mu_ret rfl (Or.inl rfl) ⟨_, (mu_si H 80 8 ((mu_i H 80 8) - (1 : Int32))), rfl, Or.inl ⟨rfl, hp1, ht1, by omega⟩⟩)
    · -- (1 : Int32)
      have ht8 := ht1.trans qt8
      have qs8 : gi_sz H8 89 = gi_sz (mu_si H 80 8 ((mu_i H 80 8) - (1 : Int32))) 89 := qk8.2
      have ha8 : ab m H8 = (ab m H) := qa8.trans (by rw [ha1])
      refine mw_if (P := (1 : Int32) = 0) (a := 74) (b := 76) (fun _ => rfl) trivial (fun h10 => absurd h10 (by decide)) (fun h10 => ?_)
      refine mw_go mu_g143 (k := 3) (f1 := (82, [(1, .inl ((tn (ab m H)) + (1 : Int32))), (0, .inr (.inr (some 80)))], [.inl (25 : Int32), .inl (mu_i H8 80 4)], H8)) (C := [mu_is H8 (some 80) 7]) rfl (show mu_is H8 (some 80) 7 from hp8.1.is rfl) ?_
      refine mw_if (P := (mu_i H8 80 4) = (25 : Int32)) (a := 94) (b := 85) (fun _ => rfl) trivial (fun h11 => ?_) (fun h11 => ?_)
      · -- 94: (mu_i H8 80 4) = (25 : Int32)
        refine mw_go mu_g143 (k := 1) (f1 := (95, [(1, .inl ((tn (ab m H)) + (1 : Int32))), (0, .inr (.inr (some 80)))], [.inr (.inr (some 80))], H8)) (C := []) rfl trivial ?_
        refine mw_cV (fun _ => rfl) (show mu_is H8 (some 80) 7 from hp8.1.is rfl) (pb_adv (d := (d + 2)) (B := B) hp8) (fun H12 q12 => ?_)
        obtain ⟨⟨hp12, qt12, qk12, qb12, qc12⟩, qa12⟩ := q12
        have ht12 := ht8.trans qt12
        have qs12 : gi_sz H12 89 = gi_sz H8 89 := qk12.2
        have ha12 : ab m H12 = (ab m H) := qa12.trans (by rw [ha8])
        have qd12 := qc12 (show mu_i H8 80 4 < 114 from (show (mu_i H8 80 4) < 114 from (by rw [h11]; decide)))
        refine mw_go mu_g143 (k := 3) (f1 := (102, [(1, .inl ((tn (ab m H)) + (1 : Int32))), (0, .inr (.inr (some 80)))], [.inl ((tn (ab m H)) + (1 : Int32)), .inl (34 : Int32), .inr (.inr (some 80))], H12)) (C := []) rfl trivial ?_
        refine mw_cV (fun _ => rfl) (show mu_is H12 (some 80) 7 from hp12.1.is rfl) (pb_emit (d := d) (B := B) hp12 hBB (by omega) (34 : Int32) ((tn (ab m H)) + (1 : Int32))) (fun H13 q13 => ?_)
        obtain ⟨hp13, qt13, qi13, qs13, qb13, qa13⟩ := q13
        have ht13 := ht12.trans qt13
        have ha13 : ab m H13 = (tp 0 (ab m H) (34 : Int32) ((tn (ab m H)) + (1 : Int32)) 0 0) := qa13.trans (by rw [ha12])
        refine mw_go mu_g143 (k := 1) (f1 := (106, [(1, .inl ((tn (ab m H)) + (1 : Int32))), (0, .inr (.inr (some 80)))], [.inr (.inr (some 80))], H13)) (C := []) rfl trivial ?_
        refine mw_cV (fun _ => rfl) (show mu_is H13 (some 80) 7 from hp13.1.is rfl) (pb_drop (d := (d + 1)) (B := B) hp13) (fun H14 q14 => ?_)
        obtain ⟨hp14, qt14, qi14, qs14, qb14, qa14⟩ := q14
        have ht14 := ht13.trans qt14
        have ha14 : ab m H14 = (td (tp 0 (ab m H) (34 : Int32) ((tn (ab m H)) + (1 : Int32)) 0 0)) := qa14.trans (by rw [ha13])
        refine mw_go mu_g143 (k := 3) (f1 := (114, [(1, .inl ((tn (ab m H)) + (1 : Int32))), (0, .inr (.inr (some 80)))], [.inl (mu_i H14 80 8), .inr (.inr (some 80))], H14)) (C := [mu_is H14 (some 80) 7]) rfl (show mu_is H14 (some 80) 7 from hp14.1.is rfl) ?_
        rw [((qi14 8).trans ((qi13 8).trans ((qk12.1 8 (by decide)).trans (qk8.1 8 (by decide)))))]
        refine mw_go mu_g143 (k := 4) (f1 := (120, [(1, .inl ((tn (ab m H)) + (1 : Int32))), (0, .inr (.inr (some 80)))], [.inl (1 : Int32)], (mu_si H14 80 8 (((mu_i H 80 8) - (1 : Int32)) - (1 : Int32))))) (C := [mu_is H14 (some 80) 7]) rfl (show mu_is H14 (some 80) 7 from hp14.1.is rfl) ?_
        have hp15 : ps m (mu_si H14 80 8 (((mu_i H 80 8) - (1 : Int32)) - (1 : Int32))) := hp14.si (by decide) (by decide)
        have ht15 : pt m B H (mu_si H14 80 8 (((mu_i H 80 8) - (1 : Int32)) - (1 : Int32))) := ht14.trans (pt.si hp14)
        have ha15 : ab m (mu_si H14 80 8 (((mu_i H 80 8) - (1 : Int32)) - (1 : Int32))) = (td (tp 0 (ab m H) (34 : Int32) ((tn (ab m H)) + (1 : Int32)) 0 0)) := (ab_si hp14.1 hp14.2.1).trans ha14
        have hb15 : ps_pot m (mu_si H14 80 8 (((mu_i H 80 8) - (1 : Int32)) - (1 : Int32))) = ps_pot m H14 := ps_potj hp14 (((mu_i H 80 8) - (1 : Int32)) - (1 : Int32)) (by decide) (by decide)
        have hs15 : gi_sz (mu_si H14 80 8 (((mu_i H 80 8) - (1 : Int32)) - (1 : Int32))) 89 = gi_sz H14 89 := rfl
        have hi16_3 : mu_i (mu_si H14 80 8 (((mu_i H 80 8) - (1 : Int32)) - (1 : Int32))) 80 3 = (mu_i H12 80 3) := ((qi14 3).trans (qi13 3))
        have hi16_4 : mu_i (mu_si H14 80 8 (((mu_i H 80 8) - (1 : Int32)) - (1 : Int32))) 80 4 = (mu_i H12 80 4) := ((qi14 4).trans (qi13 4))
        have hi16_5 : mu_i (mu_si H14 80 8 (((mu_i H 80 8) - (1 : Int32)) - (1 : Int32))) 80 5 = (mu_i H12 80 5) := ((qi14 5).trans (qi13 5))
        have hi16_6 : mu_i (mu_si H14 80 8 (((mu_i H 80 8) - (1 : Int32)) - (1 : Int32))) 80 6 = (9 : Int32) := ((qi14 6).trans ((qi13 6).trans ((qk12.1 6 (by decide)).trans ((qk8.1 6 (by decide)).trans hi2_6))))
        have hi16_7 : mu_i (mu_si H14 80 8 (((mu_i H 80 8) - (1 : Int32)) - (1 : Int32))) 80 7 = (mu_i H 80 7) := ((qi14 7).trans ((qi13 7).trans ((qk12.1 7 (by decide)).trans (qk8.1 7 (by decide)))))
        have hi16_9 : mu_i (mu_si H14 80 8 (((mu_i H 80 8) - (1 : Int32)) - (1 : Int32))) 80 9 = (mu_i H 80 9) := ((qi14 9).trans ((qi13 9).trans ((qk12.1 9 (by decide)).trans (qk8.1 9 (by decide)))))
        have hi16_10 : mu_i (mu_si H14 80 8 (((mu_i H 80 8) - (1 : Int32)) - (1 : Int32))) 80 10 = (mu_i H 80 10) := ((qi14 10).trans ((qi13 10).trans ((qk12.1 10 (by decide)).trans (qk8.1 10 (by decide)))))
        have hi16_11 : mu_i (mu_si H14 80 8 (((mu_i H 80 8) - (1 : Int32)) - (1 : Int32))) 80 11 = (mu_i H 80 11) := ((qi14 11).trans ((qi13 11).trans ((qk12.1 11 (by decide)).trans (qk8.1 11 (by decide)))))
        exact mw_of (fun _ => mu_ret rfl (Or.inr rfl) ⟨_, (mu_si H14 80 8 (((mu_i H 80 8) - (1 : Int32)) - (1 : Int32))), rfl, Or.inr ⟨rfl, hp15, ht15, by omega, (PC_c (show mu_i (mu_si H14 80 8 (((mu_i H 80 8) - (1 : Int32)) - (1 : Int32))) 80 6 = 9 from hi16_6) (show mu_i (mu_si H14 80 8 (((mu_i H 80 8) - (1 : Int32)) - (1 : Int32))) 80 9 = nI f from (hi16_9.trans hfr)) ha15 (hy.pend (tq53 hy hp1 ha1 h4) (pot_0 (m := m) (H := H) (by omega))) (Or.inr (Or.inr (Or.inr ⟨rfl, rfl, rfl⟩))))⟩⟩)
      · -- 85: not (mu_i H8 80 4) = (25 : Int32)
        refine mw_go mu_g143 (k := 4) (f1 := (90, [(1, .inl ((tn (ab m H)) + (1 : Int32))), (0, .inr (.inr (some 80)))], [.inl (5 : Int32), .inl ((tn (ab m H)) + (1 : Int32)), .inl (52 : Int32), .inr (.inr (some 80))], H8)) (C := []) rfl trivial ?_
        refine mw_cI (fun _ => rfl) (show mu_is H8 (some 80) 7 from hp8.1.is rfl) (pb_turn (d := (d + 2)) (B := B) hp8 (52 : Int32) ((tn (ab m H)) + (1 : Int32)) (5 : Int32) ⟨52, by decide, rfl⟩) (fun x17 H17 q17 => ?_)
        rcases q17 with ⟨rfl, hp17, qt17, qi17, qs17, qb17, qm17, qa17⟩
        · -- (1 : Int32)
          have ht17 := ht8.trans qt17
          have hc17 : ps_mp (mu_i H8 80 6) = 0 := by rw [show mu_i H8 80 6 = (9 : Int32) from ((qk8.1 6 (by decide)).trans hi2_6)]; rfl
          have ha17 : ab m H17 = (tu (ab m H) (52 : Int32) ((tn (ab m H)) + (1 : Int32))) := qa17.trans (by rw [ha8])
          have hw17 : ps_mp (5 : Int32) = 0 := rfl
          exact mw_of (fun _ => mu_ret rfl (Or.inr rfl) ⟨_, H17, rfl, Or.inr ⟨rfl, hp17, ht17, by omega, (PC_c (show mu_i H17 80 6 = 5 from qm17) (show mu_i H17 80 9 = nI f from (((qi17 9 (by decide)).trans (qk8.1 9 (by decide))).trans hfr)) ha17 (hy.pagain (tq53 hy hp1 ha1 h4)) (Or.inl ⟨Or.inl rfl, rfl, rfl⟩))⟩⟩)
theorem pb_given (h : ps m H) (hBB : B ≤ 1000000) (hB : ps_pot m H ≤ B + 90) {f : Nat} (hfr : mu_i H 80 9 = nI f) (hy : cy (ab m H) f [false] false) (hq : tq (ab m H) = 42) (hz0 : 1 ≤ gi_sz H 89) : mu_TI (mu_D (d + 4)) 162 [.inr (.inr (some 80))] H (fun x H1 => (x = 0 ∧ ps m H1 ∧ pt m B H H1 ∧ ps_pot m H1 ≤ ps_pot m H + 50) ∨ (x = 1 ∧ ps m H1 ∧ pt m B H H1 ∧ ps_pot m H1 + 0 ≤ ps_pot m H ∧ PC m H1)) := by
  refine mu_meth (M := mu_m162) rfl rfl ?_
  refine mw_ht (mu_fn_of (show [0].Nodup by decide)) ?_
  refine mw_go mu_g162 (k := 2) (f1 := (4, [(0, .inr (.inr (some 80)))], [.inr (.inr (mu_r H 80 2))], H)) (C := [mu_is H (some 80) 7]) rfl (show mu_is H (some 80) 7 from h.1.is rfl) ?_
  rw [h.m80]
  refine mw_go mu_g162 (k := 1) (f1 := (7, [(0, .inr (.inr (some 80)))], [.inr (.inr (mu_r H m 5))], H)) (C := [mu_is H (some m) 6]) rfl (show mu_is H (some m) 6 from h.im) ?_
  rw [h.r5]
  refine mw_go mu_g162 (k := 4) (f1 := (15, [(0, .inr (.inr (some 80)))], [.inr (.inr (mu_r H 80 2)), .inl (mu_i H 80 9), .inr (.inr (some (m + 11)))], H)) (C := [mu_is H (some 80) 7, mu_is H (some 80) 7]) rfl (show (mu_is H (some 80) 7) ∧ (mu_is H (some 80) 7) from ⟨h.1.is rfl, h.1.is rfl⟩) ?_
  rw [h.m80]
  refine mw_go mu_g162 (k := 1) (f1 := (18, [(0, .inr (.inr (some 80)))], [.inr (.inr (mu_r H m 0)), .inl (mu_i H 80 9), .inr (.inr (some (m + 11)))], H)) (C := [mu_is H (some m) 6]) rfl (show mu_is H (some m) 6 from h.im) ?_
  rw [h.r0]
  refine mw_go mu_g162 (k := 3) (f1 := (23, [(0, .inr (.inr (some 80)))], [.inl (0 : Int32), .inl (0 : Int32), .inl (mu_i H (m + 1) 2), .inl (mu_i H 80 9), .inr (.inr (some (m + 11)))], H)) (C := [mu_is H (some (m + 1)) 10]) rfl (show mu_is H (some (m + 1)) 10 from h.i0) ?_
  refine mw_cI (fun _ => rfl) (show mu_is H (some (m + 11)) 10 from h.i5) (pb_put5 (d := d) (B := B) h (by omega) (mu_i H 80 9) (mu_i H (m + 1) 2) (0 : Int32) (0 : Int32)) (fun x1 H1 q1 => ?_)
  obtain ⟨hp1, qt1, qx1, qi1, qs1, qb1, qa1⟩ := q1
  obtain rfl : x1 = nI ((ab m H) 5).1 := qx1
  have ht1 := (pt.refl m B H).trans qt1
  have ha1 : ab m H1 = (tp 5 (ab m H) (nI f) (nI ((ab m H) 0).1) (0 : Int32) (0 : Int32)) := qa1.trans (by rw [hfr, (show mu_i H (m + 1) 2 = nI ((ab m H) 0).1 from sz_n h rfl (j := 0) (by decide))])
  refine mw_go mu_g162 (k := 3) (f1 := (31, [(0, .inr (.inr (some 80)))], [.inl (mu_i H1 80 4)], H1)) (C := [mu_is H1 (some 80) 7]) rfl (show mu_is H1 (some 80) 7 from hp1.1.is rfl) ?_
  rw [(qi1 4)]
  refine mw_go mu_g162 (k := 1) (f1 := (33, [(0, .inr (.inr (some 80)))], [.inl (70 : Int32), .inl (mu_i H 80 4)], H1)) (C := []) rfl trivial ?_
  refine mw_if (P := (mu_i H 80 4) = (70 : Int32)) (a := 36) (b := 62) (fun _ => rfl) trivial (fun h2 => ?_) (fun h2 => ?_)
  · -- 36: (mu_i H 80 4) = (70 : Int32)
    refine mw_go mu_g162 (k := 3) (f1 := (41, [(0, .inr (.inr (some 80)))], [.inr (.inr (mu_r H1 80 2)), .inr (.inr (some 80))], H1)) (C := [mu_is H1 (some 80) 7]) rfl (show mu_is H1 (some 80) 7 from hp1.1.is rfl) ?_
    rw [hp1.m80]
    refine mw_go mu_g162 (k := 1) (f1 := (44, [(0, .inr (.inr (some 80)))], [.inr (.inr (mu_r H1 m 0)), .inr (.inr (some 80))], H1)) (C := [mu_is H1 (some m) 6]) rfl (show mu_is H1 (some m) 6 from hp1.im) ?_
    rw [hp1.r0]
    refine mw_go mu_g162 (k := 7) (f1 := (58, [(0, .inr (.inr (some 80)))], [.inl (70 : Int32), .inr (.inr (some 80))], (mu_si (mu_si H1 80 9 (mu_i H1 (m + 1) 2)) 80 6 (5 : Int32)))) (C := [mu_is H1 (some (m + 1)) 10, mu_is H1 (some 80) 7, mu_is (mu_si H1 80 9 (mu_i H1 (m + 1) 2)) (some 80) 7]) rfl (show (mu_is H1 (some (m + 1)) 10) ∧ (mu_is H1 (some 80) 7) ∧ (mu_is (mu_si H1 80 9 (mu_i H1 (m + 1) 2)) (some 80) 7) from ⟨hp1.i0, hp1.1.is rfl, hp1.1.is rfl⟩) ?_
    have hp3 : ps m (mu_si H1 80 9 (mu_i H1 (m + 1) 2)) := hp1.si (by decide) (by decide)
    have ht3 : pt m B H (mu_si H1 80 9 (mu_i H1 (m + 1) 2)) := ht1.trans (pt.si hp1)
    have ha3 : ab m (mu_si H1 80 9 (mu_i H1 (m + 1) 2)) = (tp 5 (ab m H) (nI f) (nI ((ab m H) 0).1) (0 : Int32) (0 : Int32)) := (ab_si hp1.1 hp1.2.1).trans ha1
    have hb3 : ps_pot m (mu_si H1 80 9 (mu_i H1 (m + 1) 2)) = ps_pot m H1 := ps_potj hp1 (mu_i H1 (m + 1) 2) (by decide) (by decide)
    have hs3 : gi_sz (mu_si H1 80 9 (mu_i H1 (m + 1) 2)) 89 = gi_sz H1 89 := rfl
    have hp4 : ps m (mu_si (mu_si H1 80 9 (mu_i H1 (m + 1) 2)) 80 6 (5 : Int32)) := hp3.si (by decide) (by decide)
    have ht4 : pt m B H (mu_si (mu_si H1 80 9 (mu_i H1 (m + 1) 2)) 80 6 (5 : Int32)) := ht3.trans (pt.si hp3)
    have ha4 : ab m (mu_si (mu_si H1 80 9 (mu_i H1 (m + 1) 2)) 80 6 (5 : Int32)) = (tp 5 (ab m H) (nI f) (nI ((ab m H) 0).1) (0 : Int32) (0 : Int32)) := (ab_si hp3.1 hp3.2.1).trans ha3
    have hb4 : ps_pot m (mu_si (mu_si H1 80 9 (mu_i H1 (m + 1) 2)) 80 6 (5 : Int32)) + ps_mp (mu_i (mu_si H1 80 9 (mu_i H1 (m + 1) 2)) 80 6) = ps_pot m (mu_si H1 80 9 (mu_i H1 (m + 1) 2)) + 0 := ps_pot6 hp3 (5 : Int32)
    have hc4 : ps_mp (mu_i (mu_si H1 80 9 (mu_i H1 (m + 1) 2)) 80 6) = ps_mp (mu_i H 80 6) := congrArg ps_mp (show mu_i (mu_si H1 80 9 (mu_i H1 (m + 1) 2)) 80 6 = (mu_i H 80 6) from (qi1 6))
    have hs4 : gi_sz (mu_si (mu_si H1 80 9 (mu_i H1 (m + 1) 2)) 80 6 (5 : Int32)) 89 = gi_sz (mu_si H1 80 9 (mu_i H1 (m + 1) 2)) 89 := rfl
    have hi5_3 : mu_i (mu_si (mu_si H1 80 9 (mu_i H1 (m + 1) 2)) 80 6 (5 : Int32)) 80 3 = (mu_i H 80 3) := (qi1 3)
    have hi5_4 : mu_i (mu_si (mu_si H1 80 9 (mu_i H1 (m + 1) 2)) 80 6 (5 : Int32)) 80 4 = (mu_i H 80 4) := (qi1 4)
    have hi5_5 : mu_i (mu_si (mu_si H1 80 9 (mu_i H1 (m + 1) 2)) 80 6 (5 : Int32)) 80 5 = (mu_i H 80 5) := (qi1 5)
    have hi5_7 : mu_i (mu_si (mu_si H1 80 9 (mu_i H1 (m + 1) 2)) 80 6 (5 : Int32)) 80 7 = (mu_i H 80 7) := (qi1 7)
    have hi5_8 : mu_i (mu_si (mu_si H1 80 9 (mu_i H1 (m + 1) 2)) 80 6 (5 : Int32)) 80 8 = (mu_i H 80 8) := (qi1 8)
    have hi5_10 : mu_i (mu_si (mu_si H1 80 9 (mu_i H1 (m + 1) 2)) 80 6 (5 : Int32)) 80 10 = (mu_i H 80 10) := (qi1 10)
    have hi5_11 : mu_i (mu_si (mu_si H1 80 9 (mu_i H1 (m + 1) 2)) 80 6 (5 : Int32)) 80 11 = (mu_i H 80 11) := (qi1 11)
    refine mw_cI (fun _ => rfl) (show mu_is (mu_si (mu_si H1 80 9 (mu_i H1 (m + 1) 2)) 80 6 (5 : Int32)) (some 80) 7 from hp4.1.is rfl) (pb_take (d := d) (B := B) hp4 (70 : Int32) (by decide)) (fun x6 H6 q6 => ?_)
    rcases q6 with ⟨rfl, rfl, qe6⟩ | ⟨rfl, hp6, qt6, qk6, qb6, qe6, qa6⟩
    · -- (0 : Int32)
      exact mw_of (fun _ => mu_ret rfl (Or.inl rfl) ⟨_, (mu_si (mu_si H1 80 9 (mu_i H1 (m + 1) 2)) 80 6 (5 : Int32)), rfl, Or.inl ⟨rfl, hp4, ht4, by omega⟩⟩)
    · -- (1 : Int32)
      have ht6 := ht4.trans qt6
      have qs6 : gi_sz H6 89 = gi_sz (mu_si (mu_si H1 80 9 (mu_i H1 (m + 1) 2)) 80 6 (5 : Int32)) 89 := qk6.2
      have ha6 : ab m H6 = (tp 5 (ab m H) (nI f) (nI ((ab m H) 0).1) (0 : Int32) (0 : Int32)) := qa6.trans (by rw [ha4])
      exact mw_of (fun _ => mu_ret rfl (Or.inr rfl) ⟨_, H6, rfl, Or.inr ⟨rfl, hp6, ht6, by omega, (PC_c (show mu_i H6 80 6 = 5 from (qk6.1 6 (by decide))) (show mu_i H6 80 9 = nI ((ab m H) 0).1 from ((qk6.1 9 (by decide)).trans (sz_n hp1 ha1 (j := 0) (by decide)))) ha6 (hy.given hq) (Or.inl ⟨Or.inl rfl, rfl, rfl⟩))⟩⟩)
  · -- 62: not (mu_i H 80 4) = (70 : Int32)
    refine mw_go mu_g162 (k := 2) (f1 := (66, [(0, .inr (.inr (some 80)))], [.inr (.inr (mu_r H1 80 2))], H1)) (C := [mu_is H1 (some 80) 7]) rfl (show mu_is H1 (some 80) 7 from hp1.1.is rfl) ?_
    rw [hp1.m80]
    refine mw_go mu_g162 (k := 1) (f1 := (69, [(0, .inr (.inr (some 80)))], [.inr (.inr (mu_r H1 m 3))], H1)) (C := [mu_is H1 (some m) 6]) rfl (show mu_is H1 (some m) 6 from hp1.im) ?_
    rw [hp1.r3]
    refine mw_go mu_g162 (k := 1) (f1 := (70, [(0, .inr (.inr (some 80)))], [.inr (.inr (some 80)), .inr (.inr (some (m + 7)))], H1)) (C := []) rfl trivial ?_
    refine mw_cIe (fun _ => rfl) (show mu_is H1 (some 80) 7 from hp1.1.is rfl) (pb_note (d := (d + 1)) hp1 ha1) ?_
    refine mw_go mu_g162 (k := 3) (f1 := (78, [(0, .inr (.inr (some 80)))], [.inr (.inr (mu_r H1 80 2)), .inl (3 : Int32), .inl (tn (tp 5 (ab m H) (nI f) (nI ((ab m H) 0).1) (0 : Int32) (0 : Int32))), .inr (.inr (some (m + 7)))], H1)) (C := [mu_is H1 (some 80) 7]) rfl (show mu_is H1 (some 80) 7 from hp1.1.is rfl) ?_
    rw [hp1.m80]
    refine mw_go mu_g162 (k := 1) (f1 := (81, [(0, .inr (.inr (some 80)))], [.inr (.inr (mu_r H1 m 5)), .inl (3 : Int32), .inl (tn (tp 5 (ab m H) (nI f) (nI ((ab m H) 0).1) (0 : Int32) (0 : Int32))), .inr (.inr (some (m + 7)))], H1)) (C := [mu_is H1 (some m) 6]) rfl (show mu_is H1 (some m) 6 from hp1.im) ?_
    rw [hp1.r5]
    refine mw_go mu_g162 (k := 3) (f1 := (88, [(0, .inr (.inr (some 80)))], [.inr (.inr (mu_r H1 80 2)), .inl (mu_i H1 (m + 11) 2), .inl (3 : Int32), .inl (tn (tp 5 (ab m H) (nI f) (nI ((ab m H) 0).1) (0 : Int32) (0 : Int32))), .inr (.inr (some (m + 7)))], H1)) (C := [mu_is H1 (some (m + 11)) 10, mu_is H1 (some 80) 7]) rfl (show (mu_is H1 (some (m + 11)) 10) ∧ (mu_is H1 (some 80) 7) from ⟨hp1.i5, hp1.1.is rfl⟩) ?_
    rw [hp1.m80]
    refine mw_go mu_g162 (k := 1) (f1 := (91, [(0, .inr (.inr (some 80)))], [.inr (.inr (mu_r H1 m 3)), .inl (mu_i H1 (m + 11) 2), .inl (3 : Int32), .inl (tn (tp 5 (ab m H) (nI f) (nI ((ab m H) 0).1) (0 : Int32) (0 : Int32))), .inr (.inr (some (m + 7)))], H1)) (C := [mu_is H1 (some m) 6]) rfl (show mu_is H1 (some m) 6 from hp1.im) ?_
    rw [hp1.r3]
    refine mw_go mu_g162 (k := 1) (f1 := (92, [(0, .inr (.inr (some 80)))], [.inr (.inr (some 80)), .inr (.inr (some (m + 7))), .inl (mu_i H1 (m + 11) 2), .inl (3 : Int32), .inl (tn (tp 5 (ab m H) (nI f) (nI ((ab m H) 0).1) (0 : Int32) (0 : Int32))), .inr (.inr (some (m + 7)))], H1)) (C := []) rfl trivial ?_
    refine mw_cIe (fun _ => rfl) (show mu_is H1 (some 80) 7 from hp1.1.is rfl) (pb_note (d := (d + 1)) hp1 ha1) ?_
    refine mw_go mu_g162 (k := 1) (f1 := (96, [(0, .inr (.inr (some 80)))], [.inl (2 : Int32), .inl (tn (tp 5 (ab m H) (nI f) (nI ((ab m H) 0).1) (0 : Int32) (0 : Int32))), .inr (.inr (some (m + 7))), .inl (mu_i H1 (m + 11) 2), .inl (3 : Int32), .inl (tn (tp 5 (ab m H) (nI f) (nI ((ab m H) 0).1) (0 : Int32) (0 : Int32))), .inr (.inr (some (m + 7)))], H1)) (C := []) rfl trivial ?_
    refine mw_cIe (fun _ => rfl) (show mu_is H1 (some (m + 7)) 10 from hp1.i3) (gi_get_ok (d := (d + 2)) (H := H1) hp1.1 hp1.w3 (tn (tp 5 (ab m H) (nI f) (nI ((ab m H) 0).1) (0 : Int32) (0 : Int32))) (j := 2) (by decide)) ?_
    refine mw_go mu_g162 (k := 1) (f1 := (100, [(0, .inr (.inr (some 80)))], [.inl ((mu_i H1 (m + 11) 2) - (rw_get H1 (m + 7) 6 (gi_sz H1 (m + 7)) (tn (tp 5 (ab m H) (nI f) (nI ((ab m H) 0).1) (0 : Int32) (0 : Int32))) 2)), .inl (3 : Int32), .inl (tn (tp 5 (ab m H) (nI f) (nI ((ab m H) 0).1) (0 : Int32) (0 : Int32))), .inr (.inr (some (m + 7)))], H1)) (C := []) rfl trivial ?_
    refine mw_cV (fun _ => rfl) (show mu_is H1 (some (m + 7)) 10 from hp1.i3) (gi_set_ok (d := (d + 2)) hp1.1 hp1.w3 (tn (tp 5 (ab m H) (nI f) (nI ((ab m H) 0).1) (0 : Int32) (0 : Int32))) ((mu_i H1 (m + 11) 2) - (rw_get H1 (m + 7) 6 (gi_sz H1 (m + 7)) (tn (tp 5 (ab m H) (nI f) (nI ((ab m H) 0).1) (0 : Int32) (0 : Int32))) 2)) (j := 3) (by decide)) (fun H10 q10 => ?_)
    have qa10 : ab m H10 = tx 3 (ab m H1) (tn (tp 5 (ab m H) (nI f) (nI ((ab m H) 0).1) (0 : Int32) (0 : Int32))) 3 ((mu_i H1 (m + 11) 2) - (rw_get H1 (m + 7) 6 (gi_sz H1 (m + 7)) (tn (tp 5 (ab m H) (nI f) (nI ((ab m H) 0).1) (0 : Int32) (0 : Int32))) 2)) := by rw [q10]; exact ab_set hp1.1 hp1.2.1 (j := 3) (by decide)
    obtain ⟨hp10, qt10, qi10, qs10, qb10⟩ := ps_set (B := B) hp1 (j := 3) (row := (tn (tp 5 (ab m H) (nI f) (nI ((ab m H) 0).1) (0 : Int32) (0 : Int32)))) (v := ((mu_i H1 (m + 11) 2) - (rw_get H1 (m + 7) 6 (gi_sz H1 (m + 7)) (tn (tp 5 (ab m H) (nI f) (nI ((ab m H) 0).1) (0 : Int32) (0 : Int32))) 2))) hp1.w3 (by omega)
    rw [← q10] at hp10 qt10 qi10 qs10 qb10
    have ht10 := ht1.trans qt10
    have ha10 : ab m H10 = (tx 3 (tp 5 (ab m H) (nI f) (nI ((ab m H) 0).1) (0 : Int32) (0 : Int32)) (tn (tp 5 (ab m H) (nI f) (nI ((ab m H) 0).1) (0 : Int32) (0 : Int32))) 3 ((mu_i H1 (m + 11) 2) - (rw_get H1 (m + 7) 6 (gi_sz H1 (m + 7)) (tn (tp 5 (ab m H) (nI f) (nI ((ab m H) 0).1) (0 : Int32) (0 : Int32))) 2))) := qa10.trans (by rw [ha1])
    refine mw_go mu_g162 (k := 1) (f1 := (104, [(0, .inr (.inr (some 80)))], [.inr (.inr (some 80))], H10)) (C := []) rfl trivial ?_
    refine mw_cV (fun _ => rfl) (show mu_is H10 (some 80) 7 from hp10.1.is rfl) (pb_drop (d := d) (B := B) hp10) (fun H11 q11 => ?_)
    obtain ⟨hp11, qt11, qi11, qs11, qb11, qa11⟩ := q11
    have ht11 := ht10.trans qt11
    have ha11 : ab m H11 = (td (tx 3 (tp 5 (ab m H) (nI f) (nI ((ab m H) 0).1) (0 : Int32) (0 : Int32)) (tn (tp 5 (ab m H) (nI f) (nI ((ab m H) 0).1) (0 : Int32) (0 : Int32))) 3 ((mu_i H1 (m + 11) 2) - (rw_get H1 (m + 7) 6 (gi_sz H1 (m + 7)) (tn (tp 5 (ab m H) (nI f) (nI ((ab m H) 0).1) (0 : Int32) (0 : Int32))) 2)))) := qa11.trans (by rw [ha10])
    refine mw_go mu_g162 (k := 5) (f1 := (115, [(0, .inr (.inr (some 80)))], [.inl (65 : Int32), .inr (.inr (some 80))], (mu_si H11 80 6 (2 : Int32)))) (C := [mu_is H11 (some 80) 7]) rfl (show mu_is H11 (some 80) 7 from hp11.1.is rfl) ?_
    have hp12 : ps m (mu_si H11 80 6 (2 : Int32)) := hp11.si (by decide) (by decide)
    have ht12 : pt m B H (mu_si H11 80 6 (2 : Int32)) := ht11.trans (pt.si hp11)
    have ha12 : ab m (mu_si H11 80 6 (2 : Int32)) = (td (tx 3 (tp 5 (ab m H) (nI f) (nI ((ab m H) 0).1) (0 : Int32) (0 : Int32)) (tn (tp 5 (ab m H) (nI f) (nI ((ab m H) 0).1) (0 : Int32) (0 : Int32))) 3 ((mu_i H1 (m + 11) 2) - (rw_get H1 (m + 7) 6 (gi_sz H1 (m + 7)) (tn (tp 5 (ab m H) (nI f) (nI ((ab m H) 0).1) (0 : Int32) (0 : Int32))) 2)))) := (ab_si hp11.1 hp11.2.1).trans ha11
    have hb12 : ps_pot m (mu_si H11 80 6 (2 : Int32)) + ps_mp (mu_i H11 80 6) = ps_pot m H11 + 0 := ps_pot6 hp11 (2 : Int32)
    have hc12 : ps_mp (mu_i H11 80 6) = ps_mp (mu_i H 80 6) := congrArg ps_mp (show mu_i H11 80 6 = (mu_i H 80 6) from ((qi11 6).trans ((qi10 6).trans (qi1 6))))
    have hs12 : gi_sz (mu_si H11 80 6 (2 : Int32)) 89 = gi_sz H11 89 := rfl
    have hi13_3 : mu_i (mu_si H11 80 6 (2 : Int32)) 80 3 = (mu_i H 80 3) := ((qi11 3).trans ((qi10 3).trans (qi1 3)))
    have hi13_4 : mu_i (mu_si H11 80 6 (2 : Int32)) 80 4 = (mu_i H 80 4) := ((qi11 4).trans ((qi10 4).trans (qi1 4)))
    have hi13_5 : mu_i (mu_si H11 80 6 (2 : Int32)) 80 5 = (mu_i H 80 5) := ((qi11 5).trans ((qi10 5).trans (qi1 5)))
    have hi13_7 : mu_i (mu_si H11 80 6 (2 : Int32)) 80 7 = (mu_i H 80 7) := ((qi11 7).trans ((qi10 7).trans (qi1 7)))
    have hi13_8 : mu_i (mu_si H11 80 6 (2 : Int32)) 80 8 = (mu_i H 80 8) := ((qi11 8).trans ((qi10 8).trans (qi1 8)))
    have hi13_9 : mu_i (mu_si H11 80 6 (2 : Int32)) 80 9 = (mu_i H 80 9) := ((qi11 9).trans ((qi10 9).trans (qi1 9)))
    have hi13_10 : mu_i (mu_si H11 80 6 (2 : Int32)) 80 10 = (mu_i H 80 10) := ((qi11 10).trans ((qi10 10).trans (qi1 10)))
    have hi13_11 : mu_i (mu_si H11 80 6 (2 : Int32)) 80 11 = (mu_i H 80 11) := ((qi11 11).trans ((qi10 11).trans (qi1 11)))
    refine mw_cI (fun _ => rfl) (show mu_is (mu_si H11 80 6 (2 : Int32)) (some 80) 7 from hp12.1.is rfl) (pb_take (d := d) (B := B) hp12 (65 : Int32) (by decide)) (fun x14 H14 q14 => ?_)
    rcases q14 with ⟨rfl, rfl, qe14⟩ | ⟨rfl, hp14, qt14, qk14, qb14, qe14, qa14⟩
    · -- (0 : Int32)
      refine mw_if (P := (0 : Int32) = 0) (a := 134) (b := 121) (fun _ => rfl) trivial (fun h15 => ?_) (fun h15 => absurd (by decide) h15)
      refine mw_go mu_g162 (k := 1) (f1 := (135, [(0, .inr (.inr (some 80)))], [.inl (0 : Int32)], (mu_si H11 80 6 (2 : Int32)))) (C := []) rfl trivial ?_
      exact mw_of (fun _ => mu_ret rfl (Or.inl rfl) ⟨_, (mu_si H11 80 6 (2 : Int32)), rfl, Or.inl ⟨rfl, hp12, ht12, by omega⟩⟩)
    · -- (1 : Int32)
      have ht14 := ht12.trans qt14
      have qs14 : gi_sz H14 89 = gi_sz (mu_si H11 80 6 (2 : Int32)) 89 := qk14.2
      have ha14 : ab m H14 = (td (tx 3 (tp 5 (ab m H) (nI f) (nI ((ab m H) 0).1) (0 : Int32) (0 : Int32)) (tn (tp 5 (ab m H) (nI f) (nI ((ab m H) 0).1) (0 : Int32) (0 : Int32))) 3 ((mu_i H1 (m + 11) 2) - (rw_get H1 (m + 7) 6 (gi_sz H1 (m + 7)) (tn (tp 5 (ab m H) (nI f) (nI ((ab m H) 0).1) (0 : Int32) (0 : Int32))) 2)))) := qa14.trans (by rw [ha12])
      refine mw_if (P := (1 : Int32) = 0) (a := 134) (b := 121) (fun _ => rfl) trivial (fun h16 => absurd h16 (by decide)) (fun h16 => ?_)
      refine mw_go mu_g162 (k := 2) (f1 := (124, [(0, .inr (.inr (some 80)))], [.inl (71 : Int32), .inr (.inr (some 80))], H14)) (C := []) rfl trivial ?_
      refine mw_cI (fun _ => rfl) (show mu_is H14 (some 80) 7 from hp14.1.is rfl) (pb_take (d := d) (B := B) hp14 (71 : Int32) (by decide)) (fun x17 H17 q17 => ?_)
      rcases q17 with ⟨rfl, rfl, qe17⟩ | ⟨rfl, hp17, qt17, qk17, qb17, qe17, qa17⟩
      · -- (0 : Int32)
        refine mw_if (P := (0 : Int32) = 0) (a := 134) (b := 130) (fun _ => rfl) trivial (fun h18 => ?_) (fun h18 => absurd (by decide) h18)
        refine mw_go mu_g162 (k := 1) (f1 := (135, [(0, .inr (.inr (some 80)))], [.inl (0 : Int32)], H14)) (C := []) rfl trivial ?_
        exact mw_of (fun _ => mu_ret rfl (Or.inl rfl) ⟨_, H14, rfl, Or.inl ⟨rfl, hp14, ht14, by omega⟩⟩)
      · -- (1 : Int32)
        have ht17 := ht14.trans qt17
        have qs17 : gi_sz H17 89 = gi_sz H14 89 := qk17.2
        have ha17 : ab m H17 = (td (tx 3 (tp 5 (ab m H) (nI f) (nI ((ab m H) 0).1) (0 : Int32) (0 : Int32)) (tn (tp 5 (ab m H) (nI f) (nI ((ab m H) 0).1) (0 : Int32) (0 : Int32))) 3 ((mu_i H1 (m + 11) 2) - (rw_get H1 (m + 7) 6 (gi_sz H1 (m + 7)) (tn (tp 5 (ab m H) (nI f) (nI ((ab m H) 0).1) (0 : Int32) (0 : Int32))) 2)))) := qa17.trans (by rw [ha14])
        refine mw_if (P := (1 : Int32) = 0) (a := 134) (b := 130) (fun _ => rfl) trivial (fun h19 => absurd h19 (by decide)) (fun h19 => ?_)
        refine mw_go mu_g162 (k := 2) (f1 := (135, [(0, .inr (.inr (some 80)))], [.inl (1 : Int32)], H17)) (C := []) rfl trivial ?_
        exact mw_of (fun _ => mu_ret rfl (Or.inr rfl) ⟨_, H17, rfl, Or.inr ⟨rfl, hp17, ht17, by omega, (PC_0 (show mu_i H17 80 6 = 2 from ((qk17.1 6 (by decide)).trans (qk14.1 6 (by decide)))) ha17 (gv_end hp1 ha1 hy hq).1.stack (Nat.le_of_succ_le (pot_b (m := m) (H := H17) ha17 (by omega))) (by show (ab m H 11).1 - 1 = 0; have z := (gv_end hp1 ha1 hy hq).2.1; omega) (Or.inr ⟨by decide, (gv_end hp1 ha1 hy hq).2.2⟩))⟩⟩)
theorem pb_listed (h : ps m H) (hBB : B ≤ 1000000) (hB : ps_pot m H ≤ B + 90) (v : Int32) {f : Nat} (hfr : mu_i H 80 9 = nI f) (hy : cy (ab m H) f [false] false) (hq : (tq (ab m H) = 47 ∧ v = 30) ∨ (tq (ab m H) = 50 ∧ v = 33)) (hz0 : 1 ≤ gi_sz H 89) (hm0 : mu_i H 80 6 = 8) : mu_TI (mu_D (d + 5)) 164 [.inr (.inr (some 80)), .inl v] H (fun x H1 => (x = 0 ∧ ps m H1 ∧ pt m B H H1 ∧ ps_pot m H1 ≤ ps_pot m H + 50) ∨ (x = 1 ∧ ps m H1 ∧ pt m B H H1 ∧ ps_pot m H1 + 0 ≤ ps_pot m H ∧ PC m H1)) := by
  refine mu_meth (M := mu_m164) rfl rfl ?_
  refine mw_ht (mu_fn_of (show [0, 1].Nodup by decide)) ?_
  refine mw_go mu_g164 (k := 1) (f1 := (1, [(0, .inr (.inr (some 80))), (1, .inl v)], [.inr (.inr (some 80))], H)) (C := []) rfl trivial ?_
  refine mw_cIe (fun _ => rfl) (show mu_is H (some 80) 7 from h.1.is rfl) (pb_note (d := (d + 2)) h rfl) ?_
  refine mw_go mu_g164 (k := 6) (f1 := (13, [(2, .inl ((tn (ab m H)) + (1 : Int32))), (0, .inr (.inr (some 80))), (1, .inl v)], [.inl (70 : Int32), .inl (mu_i H 80 4)], H)) (C := [mu_is H (some 80) 7]) rfl (show mu_is H (some 80) 7 from h.1.is rfl) ?_
  refine mw_if (P := (mu_i H 80 4) = (70 : Int32)) (a := 16) (b := 31) (fun _ => rfl) trivial (fun h2 => ?_) (fun h2 => ?_)
  · -- 16: (mu_i H 80 4) = (70 : Int32)
    refine mw_go mu_g164 (k := 1) (f1 := (17, [(2, .inl ((tn (ab m H)) + (1 : Int32))), (0, .inr (.inr (some 80))), (1, .inl v)], [.inr (.inr (some 80))], H)) (C := []) rfl trivial ?_
    refine mw_cV (fun _ => rfl) (show mu_is H (some 80) 7 from h.1.is rfl) (pb_adv (d := (d + 2)) (B := B) h) (fun H3 q3 => ?_)
    obtain ⟨⟨hp3, qt3, qk3, qb3, qc3⟩, qa3⟩ := q3
    have ht3 := (pt.refl m B H).trans qt3
    have qs3 : gi_sz H3 89 = gi_sz H 89 := qk3.2
    have ha3 : ab m H3 = (ab m H) := qa3
    have qd3 := qc3 (show mu_i H 80 4 < 114 from (show (mu_i H 80 4) < 114 from (by rw [h2]; decide)))
    refine mw_go mu_g164 (k := 2) (f1 := (22, [(2, .inl ((tn (ab m H)) + (1 : Int32))), (0, .inr (.inr (some 80))), (1, .inl v)], [.inr (.inr (some 80)), .inr (.inr (some 80))], H3)) (C := []) rfl trivial ?_
    refine mw_cIe (fun _ => rfl) (show mu_is H3 (some 80) 7 from hp3.1.is rfl) (pa_top (d := (d + 2)) hp3) ?_
    refine mw_go mu_g164 (k := 2) (f1 := (27, [(2, .inl ((tn (ab m H)) + (1 : Int32))), (0, .inr (.inr (some 80))), (1, .inl v)], [.inl (5 : Int32), .inl ((tn (ab m H)) + (1 : Int32)), .inl (ps_top H3), .inr (.inr (some 80))], H3)) (C := []) rfl trivial ?_
    refine mw_cI (fun _ => rfl) (show mu_is H3 (some 80) 7 from hp3.1.is rfl) (pb_turn (d := (d + 2)) (B := B) hp3 (ps_top H3) ((tn (ab m H)) + (1 : Int32)) (5 : Int32) (by obtain ⟨k, hk, e, _⟩ := ps_top_ok hp3; exact ⟨k, hk, e⟩)) (fun x5 H5 q5 => ?_)
    rcases q5 with ⟨rfl, hp5, qt5, qi5, qs5, qb5, qm5, qa5⟩
    · -- (1 : Int32)
      have ht5 := ht3.trans qt5
      have hc5 : ps_mp (mu_i H3 80 6) = 2 := by rw [show mu_i H3 80 6 = (8 : Int32) from ((qk3.1 6 (by decide)).trans hm0)]; rfl
      have ha5 : ab m H5 = (tu (ab m H) (tt (ab m H)) ((tn (ab m H)) + (1 : Int32))) := qa5.trans (by rw [ha3, top_tt hp3 ha3])
      have hw5 : ps_mp (5 : Int32) = 0 := rfl
      exact mw_of (fun _ => mu_ret rfl (Or.inr rfl) ⟨_, H5, rfl, Or.inr ⟨rfl, hp5, ht5, by omega, (PC_c (show mu_i H5 80 6 = 5 from qm5) (show mu_i H5 80 9 = nI f from (((qi5 9 (by decide)).trans (qk3.1 9 (by decide))).trans hfr)) ha5 (hy.comma (hq.elim (fun z => Or.inl z.1) (fun z => Or.inr z.1))) (Or.inl ⟨Or.inl rfl, rfl, rfl⟩))⟩⟩)
  · -- 31: not (mu_i H 80 4) = (70 : Int32)
    refine mw_go mu_g164 (k := 3) (f1 := (34, [(2, .inl ((tn (ab m H)) + (1 : Int32))), (0, .inr (.inr (some 80))), (1, .inl v)], [.inl ((tn (ab m H)) + (1 : Int32)), .inl v, .inr (.inr (some 80))], H)) (C := []) rfl trivial ?_
    refine mw_cV (fun _ => rfl) (show mu_is H (some 80) 7 from h.1.is rfl) (pb_emit (d := d) (B := B) h hBB (by omega) v ((tn (ab m H)) + (1 : Int32))) (fun H6 q6 => ?_)
    obtain ⟨hp6, qt6, qi6, qs6, qb6, qa6⟩ := q6
    have ht6 := (pt.refl m B H).trans qt6
    have ha6 : ab m H6 = (tp 0 (ab m H) v ((tn (ab m H)) + (1 : Int32)) 0 0) := qa6
    refine mw_go mu_g164 (k := 2) (f1 := (40, [(2, .inl ((tn (ab m H)) + (1 : Int32))), (0, .inr (.inr (some 80))), (1, .inl v)], [.inl (67 : Int32), .inr (.inr (some 80))], H6)) (C := []) rfl trivial ?_
    refine mw_cI (fun _ => rfl) (show mu_is H6 (some 80) 7 from hp6.1.is rfl) (pb_take (d := (d + 1)) (B := B) hp6 (67 : Int32) (by decide)) (fun x7 H7 q7 => ?_)
    rcases q7 with ⟨rfl, rfl, qe7⟩ | ⟨rfl, hp7, qt7, qk7, qb7, qe7, qa7⟩
    · -- (0 : Int32)
      refine mw_if (P := (0 : Int32) = 0) (a := 46) (b := 48) (fun _ => rfl) trivial (fun h8 => ?_) (fun h8 => absurd (by decide) h8)
      refine mw_go mu_g164 (k := 1) (f1 := (47, [(2, .inl ((tn (ab m H)) + (1 : Int32))), (0, .inr (.inr (some 80))), (1, .inl v)], [.inl (0 : Int32)], H6)) (C := []) rfl trivial ?_
      exact mw_of (fun _ => mu_ret rfl (Or.inl rfl) ⟨_, H6, rfl, Or.inl ⟨rfl, hp6, ht6, by omega⟩⟩)
    · -- (1 : Int32)
      have ht7 := ht6.trans qt7
      have qs7 : gi_sz H7 89 = gi_sz H6 89 := qk7.2
      have ha7 : ab m H7 = (tp 0 (ab m H) v ((tn (ab m H)) + (1 : Int32)) 0 0) := qa7.trans (by rw [ha6])
      refine mw_if (P := (1 : Int32) = 0) (a := 46) (b := 48) (fun _ => rfl) trivial (fun h9 => absurd h9 (by decide)) (fun h9 => ?_)
      refine mw_go mu_g164 (k := 1) (f1 := (49, [(2, .inl ((tn (ab m H)) + (1 : Int32))), (0, .inr (.inr (some 80))), (1, .inl v)], [.inr (.inr (some 80))], H7)) (C := []) rfl trivial ?_
      refine mw_cI (fun _ => rfl) (show mu_is H7 (some 80) 7 from hp7.1.is rfl) (pb_part (d := d) (B := B) hp7) (fun x10 H10 q10 => ?_)
      rcases q10 with ⟨rfl, hp10, qt10, qi10, qs10, qb10, qm10, qa10⟩
      · -- (1 : Int32)
        have ht10 := ht7.trans qt10
        have hc10 : ps_mp (mu_i H7 80 6) = 2 := by rw [show mu_i H7 80 6 = (8 : Int32) from ((qk7.1 6 (by decide)).trans ((qi6 6).trans hm0))]; rfl
        have ha10 : ab m H10 = (td (tp 0 (ab m H) v ((tn (ab m H)) + (1 : Int32)) 0 0)) := qa10.trans (by rw [ha7])
        have hw10 : ps_mp (8 : Int32) = 2 := rfl
        refine mw_go mu_g164 (k := 3) (f1 := (56, [(2, .inl ((tn (ab m H)) + (1 : Int32))), (0, .inr (.inr (some 80))), (1, .inl v)], [.inl (33 : Int32), .inl v], H10)) (C := []) rfl trivial ?_
        refine mw_if (P := v = (33 : Int32)) (a := 59) (b := 65) (fun _ => rfl) trivial (fun h11 => ?_) (fun h11 => ?_)
        · -- 59: v = (33 : Int32)
          refine mw_go mu_g164 (k := 4) (f1 := (66, [(2, .inl ((tn (ab m H)) + (1 : Int32))), (0, .inr (.inr (some 80))), (1, .inl v)], [.inl (1 : Int32)], (mu_si H10 80 6 (9 : Int32)))) (C := [mu_is H10 (some 80) 7]) rfl (show mu_is H10 (some 80) 7 from hp10.1.is rfl) ?_
          have hp12 : ps m (mu_si H10 80 6 (9 : Int32)) := hp10.si (by decide) (by decide)
          have ht12 : pt m B H (mu_si H10 80 6 (9 : Int32)) := ht10.trans (pt.si hp10)
          have ha12 : ab m (mu_si H10 80 6 (9 : Int32)) = (td (tp 0 (ab m H) v ((tn (ab m H)) + (1 : Int32)) 0 0)) := (ab_si hp10.1 hp10.2.1).trans ha10
          have hb12 : ps_pot m (mu_si H10 80 6 (9 : Int32)) + ps_mp (mu_i H10 80 6) = ps_pot m H10 + 0 := ps_pot6 hp10 (9 : Int32)
          have hc12 : ps_mp (mu_i H10 80 6) = 2 := by rw [show mu_i H10 80 6 = (8 : Int32) from qm10]; rfl
          have hs12 : gi_sz (mu_si H10 80 6 (9 : Int32)) 89 = gi_sz H10 89 := rfl
          have hi13_3 : mu_i (mu_si H10 80 6 (9 : Int32)) 80 3 = (mu_i H7 80 3) := (qi10 3 (by decide))
          have hi13_4 : mu_i (mu_si H10 80 6 (9 : Int32)) 80 4 = (mu_i H7 80 4) := (qi10 4 (by decide))
          have hi13_5 : mu_i (mu_si H10 80 6 (9 : Int32)) 80 5 = (mu_i H7 80 5) := (qi10 5 (by decide))
          have hi13_8 : mu_i (mu_si H10 80 6 (9 : Int32)) 80 8 = (mu_i H 80 8) := ((qi10 8 (by decide)).trans ((qk7.1 8 (by decide)).trans (qi6 8)))
          have hi13_9 : mu_i (mu_si H10 80 6 (9 : Int32)) 80 9 = (mu_i H 80 9) := ((qi10 9 (by decide)).trans ((qk7.1 9 (by decide)).trans (qi6 9)))
          have hi13_10 : mu_i (mu_si H10 80 6 (9 : Int32)) 80 10 = (mu_i H 80 10) := ((qi10 10 (by decide)).trans ((qk7.1 10 (by decide)).trans (qi6 10)))
          have hi13_11 : mu_i (mu_si H10 80 6 (9 : Int32)) 80 11 = (mu_i H 80 11) := ((qi10 11 (by decide)).trans ((qk7.1 11 (by decide)).trans (qi6 11)))
          exact mw_of (fun _ => mu_ret rfl (Or.inr rfl) ⟨_, (mu_si H10 80 6 (9 : Int32)), rfl, Or.inr ⟨rfl, hp12, ht12, by omega, (PC_c (show mu_i (mu_si H10 80 6 (9 : Int32)) 80 6 = 9 from rfl) (show mu_i (mu_si H10 80 6 (9 : Int32)) 80 9 = nI f from (hi13_9.trans hfr)) ha12 (hy.lst hq h11 (pot_0 (m := m) (H := H) (by omega))) (Or.inr (Or.inr (Or.inr ⟨rfl, rfl, rfl⟩))))⟩⟩)
        · -- 65: not v = (33 : Int32)
          refine mw_go mu_g164 (k := 1) (f1 := (66, [(2, .inl ((tn (ab m H)) + (1 : Int32))), (0, .inr (.inr (some 80))), (1, .inl v)], [.inl (1 : Int32)], H10)) (C := []) rfl trivial ?_
          exact mw_of (fun _ => mu_ret rfl (Or.inr rfl) ⟨_, H10, rfl, Or.inr ⟨rfl, hp10, ht10, by omega, (PC_c (show mu_i H10 80 6 = 8 from qm10) (show mu_i H10 80 9 = nI f from (((qi10 9 (by decide)).trans ((qk7.1 9 (by decide)).trans (qi6 9))).trans hfr)) ha10 (hy.lst0 hq h11 (pot_0 (m := m) (H := H) (by omega))) (Or.inr (Or.inr (Or.inl ⟨rfl, rfl, rfl⟩))))⟩⟩)
theorem pb_branched (h : ps m H) (hBB : B ≤ 1000000) (hB : ps_pot m H ≤ B + 90) {f : Nat} (hfr : mu_i H 80 9 = nI f) (hy : cy (ab m H) f [false] false) (hq : tq (ab m H) = 49) (hz0 : 1 ≤ gi_sz H 89) (hm0 : mu_i H 80 6 = 8) : mu_TI (mu_D (d + 7)) 165 [.inr (.inr (some 80))] H (fun x H1 => (x = 0 ∧ ps m H1 ∧ pt m B H H1 ∧ ps_pot m H1 ≤ ps_pot m H + 50) ∨ (x = 1 ∧ ps m H1 ∧ pt m B H H1 ∧ ps_pot m H1 + 0 ≤ ps_pot m H ∧ PC m H1)) := by
  refine mu_meth (M := mu_m165) rfl rfl ?_
  refine mw_ht (mu_fn_of (show [0].Nodup by decide)) ?_
  refine mw_go mu_g165 (k := 1) (f1 := (1, [(0, .inr (.inr (some 80)))], [.inr (.inr (some 80))], H)) (C := []) rfl trivial ?_
  refine mw_cIe (fun _ => rfl) (show mu_is H (some 80) 7 from h.1.is rfl) (pb_note (d := (d + 4)) h rfl) ?_
  refine mw_go mu_g165 (k := 5) (f1 := (10, [(1, .inl ((tn (ab m H)) + (1 : Int32))), (0, .inr (.inr (some 80)))], [.inl (71 : Int32), .inr (.inr (some 80))], H)) (C := []) rfl trivial ?_
  refine mw_cI (fun _ => rfl) (show mu_is H (some 80) 7 from h.1.is rfl) (pb_take (d := (d + 3)) (B := B) h (71 : Int32) (by decide)) (fun x2 H2 q2 => ?_)
  rcases q2 with ⟨rfl, rfl, qe2⟩ | ⟨rfl, hp2, qt2, qk2, qb2, qe2, qa2⟩
  · -- (0 : Int32)
    refine mw_if (P := (0 : Int32) = 0) (a := 16) (b := 18) (fun _ => rfl) trivial (fun h3 => ?_) (fun h3 => absurd (by decide) h3)
    refine mw_go mu_g165 (k := 1) (f1 := (17, [(1, .inl ((tn (ab m H)) + (1 : Int32))), (0, .inr (.inr (some 80)))], [.inl (0 : Int32)], H)) (C := []) rfl trivial ?_
    exact mw_of (fun _ => mu_ret rfl (Or.inl rfl) ⟨_, H, rfl, Or.inl ⟨rfl, h, (pt.refl m B H), by omega⟩⟩)
  · -- (1 : Int32)
    have ht2 := (pt.refl m B H).trans qt2
    have qs2 : gi_sz H2 89 = gi_sz H 89 := qk2.2
    have ha2 : ab m H2 = (ab m H) := qa2
    refine mw_if (P := (1 : Int32) = 0) (a := 16) (b := 18) (fun _ => rfl) trivial (fun h4 => absurd h4 (by decide)) (fun h4 => ?_)
    refine mw_go mu_g165 (k := 3) (f1 := (24, [(1, .inl ((tn (ab m H)) + (1 : Int32))), (0, .inr (.inr (some 80)))], [.inl (25 : Int32), .inl (mu_i H2 80 4)], H2)) (C := [mu_is H2 (some 80) 7]) rfl (show mu_is H2 (some 80) 7 from hp2.1.is rfl) ?_
    refine mw_if (P := (mu_i H2 80 4) = (25 : Int32)) (a := 36) (b := 27) (fun _ => rfl) trivial (fun h5 => ?_) (fun h5 => ?_)
    · -- 36: (mu_i H2 80 4) = (25 : Int32)
      refine mw_go mu_g165 (k := 1) (f1 := (37, [(1, .inl ((tn (ab m H)) + (1 : Int32))), (0, .inr (.inr (some 80)))], [.inr (.inr (some 80))], H2)) (C := []) rfl trivial ?_
      refine mw_cV (fun _ => rfl) (show mu_is H2 (some 80) 7 from hp2.1.is rfl) (pb_adv (d := (d + 4)) (B := B) hp2) (fun H6 q6 => ?_)
      obtain ⟨⟨hp6, qt6, qk6, qb6, qc6⟩, qa6⟩ := q6
      have ht6 := ht2.trans qt6
      have qs6 : gi_sz H6 89 = gi_sz H2 89 := qk6.2
      have ha6 : ab m H6 = (ab m H) := qa6.trans (by rw [ha2])
      have qd6 := qc6 (show mu_i H2 80 4 < 114 from (show (mu_i H2 80 4) < 114 from (by rw [h5]; decide)))
      refine mw_go mu_g165 (k := 3) (f1 := (44, [(1, .inl ((tn (ab m H)) + (1 : Int32))), (0, .inr (.inr (some 80)))], [.inl ((tn (ab m H)) + (1 : Int32)), .inl (31 : Int32), .inr (.inr (some 80))], H6)) (C := []) rfl trivial ?_
      refine mw_cV (fun _ => rfl) (show mu_is H6 (some 80) 7 from hp6.1.is rfl) (pb_emit (d := (d + 2)) (B := B) hp6 hBB (by omega) (31 : Int32) ((tn (ab m H)) + (1 : Int32))) (fun H7 q7 => ?_)
      obtain ⟨hp7, qt7, qi7, qs7, qb7, qa7⟩ := q7
      have ht7 := ht6.trans qt7
      have ha7 : ab m H7 = (tp 0 (ab m H) (31 : Int32) ((tn (ab m H)) + (1 : Int32)) 0 0) := qa7.trans (by rw [ha6])
      refine mw_go mu_g165 (k := 1) (f1 := (48, [(1, .inl ((tn (ab m H)) + (1 : Int32))), (0, .inr (.inr (some 80)))], [.inr (.inr (some 80))], H7)) (C := []) rfl trivial ?_
      refine mw_cV (fun _ => rfl) (show mu_is H7 (some 80) 7 from hp7.1.is rfl) (pb_drop (d := (d + 3)) (B := B) hp7) (fun H8 q8 => ?_)
      obtain ⟨hp8, qt8, qi8, qs8, qb8, qa8⟩ := q8
      have ht8 := ht7.trans qt8
      have ha8 : ab m H8 = (td (tp 0 (ab m H) (31 : Int32) ((tn (ab m H)) + (1 : Int32)) 0 0)) := qa8.trans (by rw [ha7])
      refine mw_go mu_g165 (k := 3) (f1 := (56, [(1, .inl ((tn (ab m H)) + (1 : Int32))), (0, .inr (.inr (some 80)))], [.inl (mu_i H8 80 8), .inr (.inr (some 80))], H8)) (C := [mu_is H8 (some 80) 7]) rfl (show mu_is H8 (some 80) 7 from hp8.1.is rfl) ?_
      rw [((qi8 8).trans ((qi7 8).trans ((qk6.1 8 (by decide)).trans (qk2.1 8 (by decide)))))]
      refine mw_go mu_g165 (k := 4) (f1 := (62, [(1, .inl ((tn (ab m H)) + (1 : Int32))), (0, .inr (.inr (some 80)))], [.inr (.inr (some 80))], (mu_si H8 80 8 ((mu_i H 80 8) - (1 : Int32))))) (C := [mu_is H8 (some 80) 7]) rfl (show mu_is H8 (some 80) 7 from hp8.1.is rfl) ?_
      have hp9 : ps m (mu_si H8 80 8 ((mu_i H 80 8) - (1 : Int32))) := hp8.si (by decide) (by decide)
      have ht9 : pt m B H (mu_si H8 80 8 ((mu_i H 80 8) - (1 : Int32))) := ht8.trans (pt.si hp8)
      have ha9 : ab m (mu_si H8 80 8 ((mu_i H 80 8) - (1 : Int32))) = (td (tp 0 (ab m H) (31 : Int32) ((tn (ab m H)) + (1 : Int32)) 0 0)) := (ab_si hp8.1 hp8.2.1).trans ha8
      have hb9 : ps_pot m (mu_si H8 80 8 ((mu_i H 80 8) - (1 : Int32))) = ps_pot m H8 := ps_potj hp8 ((mu_i H 80 8) - (1 : Int32)) (by decide) (by decide)
      have hs9 : gi_sz (mu_si H8 80 8 ((mu_i H 80 8) - (1 : Int32))) 89 = gi_sz H8 89 := rfl
      have hi10_3 : mu_i (mu_si H8 80 8 ((mu_i H 80 8) - (1 : Int32))) 80 3 = (mu_i H6 80 3) := ((qi8 3).trans (qi7 3))
      have hi10_4 : mu_i (mu_si H8 80 8 ((mu_i H 80 8) - (1 : Int32))) 80 4 = (mu_i H6 80 4) := ((qi8 4).trans (qi7 4))
      have hi10_5 : mu_i (mu_si H8 80 8 ((mu_i H 80 8) - (1 : Int32))) 80 5 = (mu_i H6 80 5) := ((qi8 5).trans (qi7 5))
      have hi10_6 : mu_i (mu_si H8 80 8 ((mu_i H 80 8) - (1 : Int32))) 80 6 = (8 : Int32) := ((qi8 6).trans ((qi7 6).trans ((qk6.1 6 (by decide)).trans ((qk2.1 6 (by decide)).trans hm0))))
      have hi10_7 : mu_i (mu_si H8 80 8 ((mu_i H 80 8) - (1 : Int32))) 80 7 = (mu_i H 80 7) := ((qi8 7).trans ((qi7 7).trans ((qk6.1 7 (by decide)).trans (qk2.1 7 (by decide)))))
      have hi10_9 : mu_i (mu_si H8 80 8 ((mu_i H 80 8) - (1 : Int32))) 80 9 = (mu_i H 80 9) := ((qi8 9).trans ((qi7 9).trans ((qk6.1 9 (by decide)).trans (qk2.1 9 (by decide)))))
      have hi10_10 : mu_i (mu_si H8 80 8 ((mu_i H 80 8) - (1 : Int32))) 80 10 = (mu_i H 80 10) := ((qi8 10).trans ((qi7 10).trans ((qk6.1 10 (by decide)).trans (qk2.1 10 (by decide)))))
      have hi10_11 : mu_i (mu_si H8 80 8 ((mu_i H 80 8) - (1 : Int32))) 80 11 = (mu_i H 80 11) := ((qi8 11).trans ((qi7 11).trans ((qk6.1 11 (by decide)).trans (qk2.1 11 (by decide)))))
      refine mw_cV (fun _ => rfl) (show mu_is (mu_si H8 80 8 ((mu_i H 80 8) - (1 : Int32))) (some 80) 7 from hp9.1.is rfl) (pb_fact (d := d) (B := B) (f := f) hp9 hBB (by omega) (by rw [ha9]; exact (hy.cend hq (pot_0 (m := m) (H := H) (by omega))))) (fun H11 q11 => ?_)
      obtain ⟨hp11, qt11, qi11, qb11, qm11, hy11⟩ := q11
      have ht11 := ht9.trans qt11
      have hc11 : ps_mp (mu_i (mu_si H8 80 8 ((mu_i H 80 8) - (1 : Int32))) 80 6) = 2 := by rw [show mu_i (mu_si H8 80 8 ((mu_i H 80 8) - (1 : Int32))) 80 6 = (8 : Int32) from hi10_6]; rfl
      refine mw_go mu_g165 (k := 1) (f1 := (66, [(1, .inl ((tn (ab m H)) + (1 : Int32))), (0, .inr (.inr (some 80)))], [.inl (1 : Int32)], H11)) (C := []) rfl trivial ?_
      exact mw_of (fun _ => mu_ret rfl (Or.inr rfl) ⟨_, H11, rfl, Or.inr ⟨rfl, hp11, ht11, by omega, (PC_c (show mu_i H11 80 6 = 8 from qm11) (show mu_i H11 80 9 = nI f from (((qi11 9 (by decide)).trans hi10_9).trans hfr)) rfl hy11 (Or.inr (Or.inr (Or.inl ⟨rfl, rfl, rfl⟩))))⟩⟩)
    · -- 27: not (mu_i H2 80 4) = (25 : Int32)
      refine mw_go mu_g165 (k := 4) (f1 := (32, [(1, .inl ((tn (ab m H)) + (1 : Int32))), (0, .inr (.inr (some 80)))], [.inl (5 : Int32), .inl ((tn (ab m H)) + (1 : Int32)), .inl (48 : Int32), .inr (.inr (some 80))], H2)) (C := []) rfl trivial ?_
      refine mw_cI (fun _ => rfl) (show mu_is H2 (some 80) 7 from hp2.1.is rfl) (pb_turn (d := (d + 4)) (B := B) hp2 (48 : Int32) ((tn (ab m H)) + (1 : Int32)) (5 : Int32) ⟨48, by decide, rfl⟩) (fun x12 H12 q12 => ?_)
      rcases q12 with ⟨rfl, hp12, qt12, qi12, qs12, qb12, qm12, qa12⟩
      · -- (1 : Int32)
        have ht12 := ht2.trans qt12
        have hc12 : ps_mp (mu_i H2 80 6) = 2 := by rw [show mu_i H2 80 6 = (8 : Int32) from ((qk2.1 6 (by decide)).trans hm0)]; rfl
        have ha12 : ab m H12 = (tu (ab m H) (48 : Int32) ((tn (ab m H)) + (1 : Int32))) := qa12.trans (by rw [ha2])
        have hw12 : ps_mp (5 : Int32) = 0 := rfl
        exact mw_of (fun _ => mu_ret rfl (Or.inr rfl) ⟨_, H12, rfl, Or.inr ⟨rfl, hp12, ht12, by omega, (PC_c (show mu_i H12 80 6 = 5 from qm12) (show mu_i H12 80 9 = nI f from (((qi12 9 (by decide)).trans (qk2.1 9 (by decide))).trans hfr)) ha12 (hy.again hq) (Or.inl ⟨Or.inl rfl, rfl, rfl⟩))⟩⟩)
theorem pb_closer (h : ps m H) (hBB : B ≤ 1000000) (hB : ps_pot m H ≤ B + 85) {f : Nat} (hfr : mu_i H 80 9 = nI f) (hy : cy (ab m H) f [false] false) (hm0 : mu_i H 80 6 = 8) : mu_TI (mu_D (d + 8)) 159 [.inr (.inr (some 80))] H (fun x H1 => (x = 0 ∧ ps m H1 ∧ pt m B H H1 ∧ ps_pot m H1 ≤ ps_pot m H + 55) ∨ (x = 1 ∧ ps m H1 ∧ pt m B H H1 ∧ ps_pot m H1 + 0 ≤ ps_pot m H ∧ PC m H1)) := by
  refine mu_meth (M := mu_m159) rfl rfl ?_
  refine mw_ht (mu_fn_of (show [0].Nodup by decide)) ?_
  refine mw_go mu_g159 (k := 1) (f1 := (1, [(0, .inr (.inr (some 80)))], [.inr (.inr (some 80))], H)) (C := []) rfl trivial ?_
  refine mw_cV (fun _ => rfl) (show mu_is H (some 80) 7 from h.1.is rfl) (pb_endp (d := d) (B := B) (f := f) h hBB (by omega) hy) (fun H1 q1 => ?_)
  obtain ⟨hp1, qt1, qi1, qb1, qs1, hy1⟩ := q1
  have ht1 := (pt.refl m B H).trans qt1
  have hc1 : ps_mp (mu_i H 80 6) = 2 := by rw [show mu_i H 80 6 = (8 : Int32) from hm0]; rfl
  refine mw_go mu_g159 (k := 2) (f1 := (6, [(0, .inr (.inr (some 80)))], [.inl (1 : Int32), .inr (.inr (some 80))], H1)) (C := []) rfl trivial ?_
  refine mw_cI (fun _ => rfl) (show mu_is H1 (some 80) 7 from hp1.1.is rfl) (pb_unwind (d := (d + 1)) (B := B) (f := f) hp1 hBB (by omega) (1 : Int32) hy1 (by decide)) (fun x2 H2 q2 => ?_)
  obtain ⟨hp2, qt2, qi2, qb2, qs2, hy2, ql2⟩ := q2
  have ht2 := ht1.trans qt2
  have hc2 : ps_mp (mu_i H1 80 6) = 2 := by rw [show mu_i H1 80 6 = (8 : Int32) from ((qi1 6 (by decide)).trans hm0)]; rfl
  refine mw_go mu_g159 (k := 2) (f1 := (11, [(0, .inr (.inr (some 80)))], [.inr (.inr (some 80))], H2)) (C := []) rfl trivial ?_
  refine mw_cIe (fun _ => rfl) (show mu_is H2 (some 80) 7 from hp2.1.is rfl) (pa_top (d := (d + 5)) hp2) ?_
  refine mw_go mu_g159 (k := 2) (f1 := (16, [(1, .inl (ps_top H2)), (0, .inr (.inr (some 80)))], [.inl (ps_top H2)], H2)) (C := []) rfl trivial ?_
  refine mw_tsw2 rfl (by decide) (fun hx => ?_) ⟨fun z => ?_, fun z => ?_, fun z => ?_, fun z => ?_, fun z => ?_, fun z => ?_, fun z => ?_, fun z => ?_, fun z => ?_, fun z => ?_, fun z => ?_, fun z => ?_, fun z => ?_, trivial⟩
  · -- None: 334
    exact (no_top hy2 ql2 hp2 rfl hx).elim
  · -- 40: 84
    have h5 : (ps_top H2) = (40 : Int32) := Int32.toInt_inj.mp (z.trans (by decide))
    have hz5 := ps_top_sz hp2 h5 (by decide)
    refine mw_go mu_g159 (k := 2) (f1 := (88, [(1, .inl (ps_top H2)), (0, .inr (.inr (some 80)))], [.inr (.inr (mu_r H2 80 2))], H2)) (C := [mu_is H2 (some 80) 7]) rfl (show mu_is H2 (some 80) 7 from hp2.1.is rfl) ?_
    rw [hp2.m80]
    refine mw_go mu_g159 (k := 1) (f1 := (91, [(1, .inl (ps_top H2)), (0, .inr (.inr (some 80)))], [.inr (.inr (mu_r H2 m 8))], H2)) (C := [mu_is H2 (some m) 6]) rfl (show mu_is H2 (some m) 6 from hp2.im) ?_
    rw [hp2.r8]
    refine mw_go mu_g159 (k := 1) (f1 := (92, [(1, .inl (ps_top H2)), (0, .inr (.inr (some 80)))], [.inr (.inr (some 80)), .inr (.inr (some (m + 17)))], H2)) (C := []) rfl trivial ?_
    refine mw_cIe (fun _ => rfl) (show mu_is H2 (some 80) 7 from hp2.1.is rfl) (pb_note (d := (d + 5)) hp2 rfl) ?_
    refine mw_go mu_g159 (k := 2) (f1 := (99, [(1, .inl (ps_top H2)), (0, .inr (.inr (some 80)))], [.inl (mu_i H2 80 9), .inl (tn (ab m H2)), .inr (.inr (some (m + 17)))], H2)) (C := [mu_is H2 (some 80) 7]) rfl (show mu_is H2 (some 80) 7 from hp2.1.is rfl) ?_
    rw [((qi2 9 (by decide)).trans (qi1 9 (by decide)))]
    refine mw_go mu_g159 (k := 2) (f1 := (103, [(1, .inl (ps_top H2)), (0, .inr (.inr (some 80)))], [.inr (.inr (mu_r H2 80 2)), .inl (mu_i H 80 9), .inl (tn (ab m H2)), .inr (.inr (some (m + 17)))], H2)) (C := [mu_is H2 (some 80) 7]) rfl (show mu_is H2 (some 80) 7 from hp2.1.is rfl) ?_
    rw [hp2.m80]
    refine mw_go mu_g159 (k := 1) (f1 := (106, [(1, .inl (ps_top H2)), (0, .inr (.inr (some 80)))], [.inr (.inr (mu_r H2 m 0)), .inl (mu_i H 80 9), .inl (tn (ab m H2)), .inr (.inr (some (m + 17)))], H2)) (C := [mu_is H2 (some m) 6]) rfl (show mu_is H2 (some m) 6 from hp2.im) ?_
    rw [hp2.r0]
    refine mw_go mu_g159 (k := 2) (f1 := (110, [(1, .inl (ps_top H2)), (0, .inr (.inr (some 80)))], [.inl (0 : Int32), .inl (mu_i H2 (m + 1) 2), .inl (mu_i H 80 9), .inl (tn (ab m H2)), .inr (.inr (some (m + 17)))], H2)) (C := [mu_is H2 (some (m + 1)) 10]) rfl (show mu_is H2 (some (m + 1)) 10 from hp2.i0) ?_
    refine mw_cI (fun _ => rfl) (show mu_is H2 (some (m + 17)) 10 from hp2.i8) (pb_put8 (d := (d + 4)) (B := B) hp2 (by omega) (tn (ab m H2)) (mu_i H 80 9) (mu_i H2 (m + 1) 2) (0 : Int32)) (fun x7 H7 q7 => ?_)
    obtain ⟨hp7, qt7, qx7, qi7, qs7, qb7, qa7⟩ := q7
    obtain rfl : x7 = nI ((ab m H2) 8).1 := qx7
    have ht7 := ht2.trans qt7
    have ha7 : ab m H7 = (tp 8 (ab m H2) (tn (ab m H2)) (nI f) (nI ((ab m H2) 0).1) (0 : Int32)) := qa7.trans (by rw [hfr, (show mu_i H2 (m + 1) 2 = nI ((ab m H2) 0).1 from sz_n hp2 rfl (j := 0) (by decide))])
    refine mw_go mu_g159 (k := 3) (f1 := (116, [(1, .inl (ps_top H2)), (0, .inr (.inr (some 80)))], [.inl (1 : Int32), .inr (.inr (some 80))], H7)) (C := []) rfl trivial ?_
    refine mw_cI (fun _ => rfl) (show mu_is H7 (some 80) 7 from hp7.1.is rfl) (pb_item (d := (d + 3)) (B := B) hp7 (1 : Int32)) (fun x8 H8 q8 => ?_)
    rcases q8 with ⟨rfl, hp8, qt8, qb8⟩ | ⟨rfl, hp8, qt8, qb8, qm8, qa8⟩
    · -- (0 : Int32)
      have ht8 := ht7.trans qt8
      have hc8 : ps_mp (mu_i H7 80 6) = 2 := by rw [show mu_i H7 80 6 = (8 : Int32) from ((qi7 6).trans ((qi2 6 (by decide)).trans ((qi1 6 (by decide)).trans hm0)))]; rfl
      have hw8 : ps_mp (1 : Int32) = 0 := rfl
      exact mw_of (fun _ => mu_ret rfl (Or.inl rfl) ⟨_, H8, rfl, Or.inl ⟨rfl, hp8, ht8, by omega⟩⟩)
    · -- (1 : Int32)
      have ht8 := ht7.trans qt8
      have hc8 : ps_mp (mu_i H7 80 6) = 2 := by rw [show mu_i H7 80 6 = (8 : Int32) from ((qi7 6).trans ((qi2 6 (by decide)).trans ((qi1 6 (by decide)).trans hm0)))]; rfl
      have hw8 : ps_mp (1 : Int32) = 0 := rfl
      have ha8 : ab m H8 = (td (tp 8 (ab m H2) (tn (ab m H2)) (nI f) (nI ((ab m H2) 0).1) (0 : Int32))) := qa8.trans (by rw [ha7])
      exact mw_of (fun _ => mu_ret rfl (Or.inr rfl) ⟨_, H8, rfl, Or.inr ⟨rfl, hp8, ht8, by omega, (PC_0 (show mu_i H8 80 6 = 1 from qm8) ha8 (hy2.eclaim (tq_top hp2 rfl (k := 40) h5 (by decide))).1 (Nat.le_of_succ_le (pot_b (m := m) (H := H8) ha8 (by omega))) (by show (ab m H2 11).1 - 1 = 0; have z := (hy2.eone (tq_top hp2 rfl (k := 40) h5 (by decide)) (by decide) (by decide)).1; omega) (Or.inr ⟨by decide, (hy2.eone (tq_top hp2 rfl (k := 40) h5 (by decide)) (by decide) (by decide)).2⟩))⟩⟩)
  · -- 41: 120
    have h9 : (ps_top H2) = (41 : Int32) := Int32.toInt_inj.mp (z.trans (by decide))
    have hz9 := ps_top_sz hp2 h9 (by decide)
    refine mw_go mu_g159 (k := 2) (f1 := (124, [(1, .inl (ps_top H2)), (0, .inr (.inr (some 80)))], [.inr (.inr (mu_r H2 80 2))], H2)) (C := [mu_is H2 (some 80) 7]) rfl (show mu_is H2 (some 80) 7 from hp2.1.is rfl) ?_
    rw [hp2.m80]
    refine mw_go mu_g159 (k := 1) (f1 := (127, [(1, .inl (ps_top H2)), (0, .inr (.inr (some 80)))], [.inr (.inr (mu_r H2 m 6))], H2)) (C := [mu_is H2 (some m) 6]) rfl (show mu_is H2 (some m) 6 from hp2.im) ?_
    rw [hp2.r6]
    refine mw_go mu_g159 (k := 1) (f1 := (128, [(1, .inl (ps_top H2)), (0, .inr (.inr (some 80)))], [.inr (.inr (some 80)), .inr (.inr (some (m + 13)))], H2)) (C := []) rfl trivial ?_
    refine mw_cIe (fun _ => rfl) (show mu_is H2 (some 80) 7 from hp2.1.is rfl) (pb_note (d := (d + 5)) hp2 rfl) ?_
    refine mw_go mu_g159 (k := 2) (f1 := (135, [(1, .inl (ps_top H2)), (0, .inr (.inr (some 80)))], [.inl (mu_i H2 80 9), .inl (tn (ab m H2)), .inr (.inr (some (m + 13)))], H2)) (C := [mu_is H2 (some 80) 7]) rfl (show mu_is H2 (some 80) 7 from hp2.1.is rfl) ?_
    rw [((qi2 9 (by decide)).trans (qi1 9 (by decide)))]
    refine mw_go mu_g159 (k := 2) (f1 := (139, [(1, .inl (ps_top H2)), (0, .inr (.inr (some 80)))], [.inr (.inr (mu_r H2 80 2)), .inl (mu_i H 80 9), .inl (tn (ab m H2)), .inr (.inr (some (m + 13)))], H2)) (C := [mu_is H2 (some 80) 7]) rfl (show mu_is H2 (some 80) 7 from hp2.1.is rfl) ?_
    rw [hp2.m80]
    refine mw_go mu_g159 (k := 1) (f1 := (142, [(1, .inl (ps_top H2)), (0, .inr (.inr (some 80)))], [.inr (.inr (mu_r H2 m 0)), .inl (mu_i H 80 9), .inl (tn (ab m H2)), .inr (.inr (some (m + 13)))], H2)) (C := [mu_is H2 (some m) 6]) rfl (show mu_is H2 (some m) 6 from hp2.im) ?_
    rw [hp2.r0]
    refine mw_go mu_g159 (k := 2) (f1 := (146, [(1, .inl (ps_top H2)), (0, .inr (.inr (some 80)))], [.inl (0 : Int32), .inl (mu_i H2 (m + 1) 2), .inl (mu_i H 80 9), .inl (tn (ab m H2)), .inr (.inr (some (m + 13)))], H2)) (C := [mu_is H2 (some (m + 1)) 10]) rfl (show mu_is H2 (some (m + 1)) 10 from hp2.i0) ?_
    refine mw_cI (fun _ => rfl) (show mu_is H2 (some (m + 13)) 10 from hp2.i6) (pb_put6 (d := (d + 4)) (B := B) hp2 (by omega) (tn (ab m H2)) (mu_i H 80 9) (mu_i H2 (m + 1) 2) (0 : Int32)) (fun x11 H11 q11 => ?_)
    obtain ⟨hp11, qt11, qx11, qi11, qs11, qb11, qa11⟩ := q11
    obtain rfl : x11 = nI ((ab m H2) 6).1 := qx11
    have ht11 := ht2.trans qt11
    have ha11 : ab m H11 = (tp 6 (ab m H2) (tn (ab m H2)) (nI f) (nI ((ab m H2) 0).1) (0 : Int32)) := qa11.trans (by rw [hfr, (show mu_i H2 (m + 1) 2 = nI ((ab m H2) 0).1 from sz_n hp2 rfl (j := 0) (by decide))])
    refine mw_go mu_g159 (k := 3) (f1 := (152, [(1, .inl (ps_top H2)), (0, .inr (.inr (some 80)))], [.inl (3 : Int32), .inr (.inr (some 80))], H11)) (C := []) rfl trivial ?_
    refine mw_cI (fun _ => rfl) (show mu_is H11 (some 80) 7 from hp11.1.is rfl) (pb_item (d := (d + 3)) (B := B) hp11 (3 : Int32)) (fun x12 H12 q12 => ?_)
    rcases q12 with ⟨rfl, hp12, qt12, qb12⟩ | ⟨rfl, hp12, qt12, qb12, qm12, qa12⟩
    · -- (0 : Int32)
      have ht12 := ht11.trans qt12
      have hc12 : ps_mp (mu_i H11 80 6) = 2 := by rw [show mu_i H11 80 6 = (8 : Int32) from ((qi11 6).trans ((qi2 6 (by decide)).trans ((qi1 6 (by decide)).trans hm0)))]; rfl
      have hw12 : ps_mp (3 : Int32) = 0 := rfl
      exact mw_of (fun _ => mu_ret rfl (Or.inl rfl) ⟨_, H12, rfl, Or.inl ⟨rfl, hp12, ht12, by omega⟩⟩)
    · -- (1 : Int32)
      have ht12 := ht11.trans qt12
      have hc12 : ps_mp (mu_i H11 80 6) = 2 := by rw [show mu_i H11 80 6 = (8 : Int32) from ((qi11 6).trans ((qi2 6 (by decide)).trans ((qi1 6 (by decide)).trans hm0)))]; rfl
      have hw12 : ps_mp (3 : Int32) = 0 := rfl
      have ha12 : ab m H12 = (td (tp 6 (ab m H2) (tn (ab m H2)) (nI f) (nI ((ab m H2) 0).1) (0 : Int32))) := qa12.trans (by rw [ha11])
      exact mw_of (fun _ => mu_ret rfl (Or.inr rfl) ⟨_, H12, rfl, Or.inr ⟨rfl, hp12, ht12, by omega, (PC_0 (show mu_i H12 80 6 = 3 from qm12) ha12 (hy2.edef (tq_top hp2 rfl (k := 41) h9 (by decide))).1 (Nat.le_of_succ_le (pot_b (m := m) (H := H12) ha12 (by omega))) (by show (ab m H2 11).1 - 1 = 0; have z := (hy2.eone (tq_top hp2 rfl (k := 41) h9 (by decide)) (by decide) (by decide)).1; omega) (Or.inr ⟨by decide, (hy2.eone (tq_top hp2 rfl (k := 41) h9 (by decide)) (by decide) (by decide)).2⟩))⟩⟩)
  · -- 42: 156
    have h13 : (ps_top H2) = (42 : Int32) := Int32.toInt_inj.mp (z.trans (by decide))
    have hz13 := ps_top_sz hp2 h13 (by decide)
    refine mw_go mu_g159 (k := 1) (f1 := (157, [(1, .inl (ps_top H2)), (0, .inr (.inr (some 80)))], [.inr (.inr (some 80))], H2)) (C := []) rfl trivial ?_
    refine mw_cI (fun _ => rfl) (show mu_is H2 (some 80) 7 from hp2.1.is rfl) (pb_given (d := (d + 3)) (B := B) hp2 hBB (by omega) (show mu_i H2 80 9 = nI f from (((qi2 9 (by decide)).trans (qi1 9 (by decide))).trans hfr)) hy2 (tq_top hp2 rfl (k := 42) h13 (by decide)) (by omega)) (fun x14 H14 q14 => ?_)
    rcases q14 with ⟨rfl, hp14, qt14, qb14⟩ | ⟨rfl, hp14, qt14, qb14, qp14⟩
    · -- (0 : Int32)
      have ht14 := ht2.trans qt14
      have hc14 : ps_mp (mu_i H2 80 6) = 2 := by rw [show mu_i H2 80 6 = (8 : Int32) from ((qi2 6 (by decide)).trans ((qi1 6 (by decide)).trans hm0))]; rfl
      exact mw_of (fun _ => mu_ret rfl (Or.inl rfl) ⟨_, H14, rfl, Or.inl ⟨rfl, hp14, ht14, by omega⟩⟩)
    · -- (1 : Int32)
      have ht14 := ht2.trans qt14
      have hc14 : ps_mp (mu_i H2 80 6) = 2 := by rw [show mu_i H2 80 6 = (8 : Int32) from ((qi2 6 (by decide)).trans ((qi1 6 (by decide)).trans hm0))]; rfl
      exact mw_of (fun _ => mu_ret rfl (Or.inr rfl) ⟨_, H14, rfl, Or.inr ⟨rfl, hp14, ht14, by omega, qp14⟩⟩)
  · -- 43: 334
    have h15 : (ps_top H2) = (43 : Int32) := Int32.toInt_inj.mp (z.trans (by decide))
    have hz15 := ps_top_sz hp2 h15 (by decide)
    exact absurd (tq_top hp2 rfl (k := 43) h15 (by decide)) (hy2.2.2.2.2 rfl).1
  · -- 44: 161
    have h16 : (ps_top H2) = (44 : Int32) := Int32.toInt_inj.mp (z.trans (by decide))
    have hz16 := ps_top_sz hp2 h16 (by decide)
    refine mw_go mu_g159 (k := 1) (f1 := (162, [(1, .inl (ps_top H2)), (0, .inr (.inr (some 80)))], [.inr (.inr (some 80))], H2)) (C := []) rfl trivial ?_
    refine mw_cV (fun _ => rfl) (show mu_is H2 (some 80) 7 from hp2.1.is rfl) (pb_drop (d := (d + 4)) (B := B) hp2) (fun H17 q17 => ?_)
    obtain ⟨hp17, qt17, qi17, qs17, qb17, qa17⟩ := q17
    have ht17 := ht2.trans qt17
    have ha17 : ab m H17 = (td (ab m H2)) := qa17
    refine mw_go mu_g159 (k := 3) (f1 := (170, [(1, .inl (ps_top H2)), (0, .inr (.inr (some 80)))], [.inl (mu_i H17 80 8), .inr (.inr (some 80))], H17)) (C := [mu_is H17 (some 80) 7]) rfl (show mu_is H17 (some 80) 7 from hp17.1.is rfl) ?_
    rw [(qi17 8)]
    refine mw_go mu_g159 (k := 4) (f1 := (176, [(1, .inl (ps_top H2)), (0, .inr (.inr (some 80)))], [.inr (.inr (some 80))], (mu_si H17 80 8 ((mu_i H2 80 8) - (1 : Int32))))) (C := [mu_is H17 (some 80) 7]) rfl (show mu_is H17 (some 80) 7 from hp17.1.is rfl) ?_
    have hp18 : ps m (mu_si H17 80 8 ((mu_i H2 80 8) - (1 : Int32))) := hp17.si (by decide) (by decide)
    have ht18 : pt m B H (mu_si H17 80 8 ((mu_i H2 80 8) - (1 : Int32))) := ht17.trans (pt.si hp17)
    have ha18 : ab m (mu_si H17 80 8 ((mu_i H2 80 8) - (1 : Int32))) = (td (ab m H2)) := (ab_si hp17.1 hp17.2.1).trans ha17
    have hb18 : ps_pot m (mu_si H17 80 8 ((mu_i H2 80 8) - (1 : Int32))) = ps_pot m H17 := ps_potj hp17 ((mu_i H2 80 8) - (1 : Int32)) (by decide) (by decide)
    have hs18 : gi_sz (mu_si H17 80 8 ((mu_i H2 80 8) - (1 : Int32))) 89 = gi_sz H17 89 := rfl
    have hi19_3 : mu_i (mu_si H17 80 8 ((mu_i H2 80 8) - (1 : Int32))) 80 3 = (mu_i H 80 3) := ((qi17 3).trans ((qi2 3 (by decide)).trans (qi1 3 (by decide))))
    have hi19_4 : mu_i (mu_si H17 80 8 ((mu_i H2 80 8) - (1 : Int32))) 80 4 = (mu_i H 80 4) := ((qi17 4).trans ((qi2 4 (by decide)).trans (qi1 4 (by decide))))
    have hi19_5 : mu_i (mu_si H17 80 8 ((mu_i H2 80 8) - (1 : Int32))) 80 5 = (mu_i H 80 5) := ((qi17 5).trans ((qi2 5 (by decide)).trans (qi1 5 (by decide))))
    have hi19_6 : mu_i (mu_si H17 80 8 ((mu_i H2 80 8) - (1 : Int32))) 80 6 = (8 : Int32) := ((qi17 6).trans ((qi2 6 (by decide)).trans ((qi1 6 (by decide)).trans hm0)))
    have hi19_7 : mu_i (mu_si H17 80 8 ((mu_i H2 80 8) - (1 : Int32))) 80 7 = (mu_i H 80 7) := ((qi17 7).trans ((qi2 7 (by decide)).trans (qi1 7 (by decide))))
    have hi19_9 : mu_i (mu_si H17 80 8 ((mu_i H2 80 8) - (1 : Int32))) 80 9 = (mu_i H 80 9) := ((qi17 9).trans ((qi2 9 (by decide)).trans (qi1 9 (by decide))))
    have hi19_10 : mu_i (mu_si H17 80 8 ((mu_i H2 80 8) - (1 : Int32))) 80 10 = (mu_i H 80 10) := ((qi17 10).trans ((qi2 10 (by decide)).trans (qi1 10 (by decide))))
    have hi19_11 : mu_i (mu_si H17 80 8 ((mu_i H2 80 8) - (1 : Int32))) 80 11 = (mu_i H 80 11) := ((qi17 11).trans ((qi2 11 (by decide)).trans (qi1 11 (by decide))))
    refine mw_cV (fun _ => rfl) (show mu_is (mu_si H17 80 8 ((mu_i H2 80 8) - (1 : Int32))) (some 80) 7 from hp18.1.is rfl) (pb_fact (d := (d + 1)) (B := B) (f := f) hp18 hBB (by omega) (by rw [ha18]; exact (hy2.par (tq_top hp2 rfl (k := 44) h16 (by decide))))) (fun H20 q20 => ?_)
    obtain ⟨hp20, qt20, qi20, qb20, qm20, hy20⟩ := q20
    have ht20 := ht18.trans qt20
    have hc20 : ps_mp (mu_i (mu_si H17 80 8 ((mu_i H2 80 8) - (1 : Int32))) 80 6) = 2 := by rw [show mu_i (mu_si H17 80 8 ((mu_i H2 80 8) - (1 : Int32))) 80 6 = (8 : Int32) from hi19_6]; rfl
    refine mw_go mu_g159 (k := 2) (f1 := (182, [(1, .inl (ps_top H2)), (0, .inr (.inr (some 80)))], [.inl (65 : Int32), .inr (.inr (some 80))], H20)) (C := []) rfl trivial ?_
    refine mw_cI (fun _ => rfl) (show mu_is H20 (some 80) 7 from hp20.1.is rfl) (pb_take (d := (d + 4)) (B := B) hp20 (65 : Int32) (by decide)) (fun x21 H21 q21 => ?_)
    rcases q21 with ⟨rfl, rfl, qe21⟩ | ⟨rfl, hp21, qt21, qk21, qb21, qe21, qa21⟩
    · -- (0 : Int32)
      exact mw_of (fun _ => mu_ret rfl (Or.inl rfl) ⟨_, H20, rfl, Or.inl ⟨rfl, hp20, ht20, by omega⟩⟩)
    · -- (1 : Int32)
      have ht21 := ht20.trans qt21
      have qs21 : gi_sz H21 89 = gi_sz H20 89 := qk21.2
      have ha21 : ab m H21 = (ab m H20) := qa21
      exact mw_of (fun _ => mu_ret rfl (Or.inr rfl) ⟨_, H21, rfl, Or.inr ⟨rfl, hp21, ht21, by omega, (PC_c (show mu_i H21 80 6 = 8 from ((qk21.1 6 (by decide)).trans qm20)) (show mu_i H21 80 9 = nI f from (((qk21.1 9 (by decide)).trans ((qi20 9 (by decide)).trans hi19_9)).trans hfr)) ha21 hy20 (Or.inr (Or.inr (Or.inl ⟨rfl, rfl, rfl⟩))))⟩⟩)
  · -- 45: 186
    have h22 : (ps_top H2) = (45 : Int32) := Int32.toInt_inj.mp (z.trans (by decide))
    have hz22 := ps_top_sz hp2 h22 (by decide)
    refine mw_go mu_g159 (k := 2) (f1 := (189, [(1, .inl (ps_top H2)), (0, .inr (.inr (some 80)))], [.inl (21 : Int32), .inr (.inr (some 80))], H2)) (C := []) rfl trivial ?_
    refine mw_cI (fun _ => rfl) (show mu_is H2 (some 80) 7 from hp2.1.is rfl) (pb_take (d := (d + 4)) (B := B) hp2 (21 : Int32) (by decide)) (fun x23 H23 q23 => ?_)
    rcases q23 with ⟨rfl, rfl, qe23⟩ | ⟨rfl, hp23, qt23, qk23, qb23, qe23, qa23⟩
    · -- (0 : Int32)
      refine mw_if (P := (0 : Int32) = 0) (a := 213) (b := 195) (fun _ => rfl) trivial (fun h24 => ?_) (fun h24 => absurd (by decide) h24)
      refine mw_go mu_g159 (k := 1) (f1 := (214, [(1, .inl (ps_top H2)), (0, .inr (.inr (some 80)))], [.inl (0 : Int32)], H2)) (C := []) rfl trivial ?_
      exact mw_of (fun _ => mu_ret rfl (Or.inl rfl) ⟨_, H2, rfl, Or.inl ⟨rfl, hp2, ht2, by omega⟩⟩)
    · -- (1 : Int32)
      have ht23 := ht2.trans qt23
      have qs23 : gi_sz H23 89 = gi_sz H2 89 := qk23.2
      have ha23 : ab m H23 = (ab m H2) := qa23
      refine mw_if (P := (1 : Int32) = 0) (a := 213) (b := 195) (fun _ => rfl) trivial (fun h25 => absurd h25 (by decide)) (fun h25 => ?_)
      refine mw_go mu_g159 (k := 3) (f1 := (199, [(1, .inl (ps_top H2)), (0, .inr (.inr (some 80)))], [.inr (.inr (some 80)), .inl (46 : Int32), .inr (.inr (some 80))], H23)) (C := []) rfl trivial ?_
      refine mw_cIe (fun _ => rfl) (show mu_is H23 (some 80) 7 from hp23.1.is rfl) (pb_note (d := (d + 5)) hp23 ha23) ?_
      refine mw_go mu_g159 (k := 1) (f1 := (203, [(1, .inl (ps_top H2)), (0, .inr (.inr (some 80)))], [.inl (5 : Int32), .inl (tn (ab m H2)), .inl (46 : Int32), .inr (.inr (some 80))], H23)) (C := []) rfl trivial ?_
      refine mw_cI (fun _ => rfl) (show mu_is H23 (some 80) 7 from hp23.1.is rfl) (pb_turn (d := (d + 5)) (B := B) hp23 (46 : Int32) (tn (ab m H2)) (5 : Int32) ⟨46, by decide, rfl⟩) (fun x27 H27 q27 => ?_)
      rcases q27 with ⟨rfl, hp27, qt27, qi27, qs27, qb27, qm27, qa27⟩
      · -- (1 : Int32)
        have ht27 := ht23.trans qt27
        have hc27 : ps_mp (mu_i H23 80 6) = 2 := by rw [show mu_i H23 80 6 = (8 : Int32) from ((qk23.1 6 (by decide)).trans ((qi2 6 (by decide)).trans ((qi1 6 (by decide)).trans hm0)))]; rfl
        have ha27 : ab m H27 = (tu (ab m H2) (46 : Int32) (tn (ab m H2))) := qa27.trans (by rw [ha23])
        have hw27 : ps_mp (5 : Int32) = 0 := rfl
        refine mw_if (P := (1 : Int32) = 0) (a := 213) (b := 209) (fun _ => rfl) trivial (fun h28 => absurd h28 (by decide)) (fun h28 => ?_)
        refine mw_go mu_g159 (k := 2) (f1 := (214, [(1, .inl (ps_top H2)), (0, .inr (.inr (some 80)))], [.inl (1 : Int32)], H27)) (C := []) rfl trivial ?_
        exact mw_of (fun _ => mu_ret rfl (Or.inr rfl) ⟨_, H27, rfl, Or.inr ⟨rfl, hp27, ht27, by omega, (PC_c (show mu_i H27 80 6 = 5 from qm27) (show mu_i H27 80 9 = nI f from (((qi27 9 (by decide)).trans ((qk23.1 9 (by decide)).trans ((qi2 9 (by decide)).trans (qi1 9 (by decide))))).trans hfr)) ha27 (hy2.until (tq_top hp2 rfl (k := 45) h22 (by decide))) (Or.inl ⟨Or.inl rfl, rfl, rfl⟩))⟩⟩)
  · -- 46: 215
    have h29 : (ps_top H2) = (46 : Int32) := Int32.toInt_inj.mp (z.trans (by decide))
    have hz29 := ps_top_sz hp2 h29 (by decide)
    refine mw_go mu_g159 (k := 2) (f1 := (217, [(1, .inl (ps_top H2)), (0, .inr (.inr (some 80)))], [.inr (.inr (some 80)), .inr (.inr (some 80))], H2)) (C := []) rfl trivial ?_
    refine mw_cIe (fun _ => rfl) (show mu_is H2 (some 80) 7 from hp2.1.is rfl) (pb_note (d := (d + 5)) hp2 rfl) ?_
    refine mw_go mu_g159 (k := 1) (f1 := (221, [(1, .inl (ps_top H2)), (0, .inr (.inr (some 80)))], [.inl (0 : Int32), .inl (tn (ab m H2)), .inr (.inr (some 80))], H2)) (C := []) rfl trivial ?_
    refine mw_cV (fun _ => rfl) (show mu_is H2 (some 80) 7 from hp2.1.is rfl) (pb_emit (d := (d + 3)) (B := B) hp2 hBB (by omega) (tn (ab m H2)) (0 : Int32)) (fun H31 q31 => ?_)
    obtain ⟨hp31, qt31, qi31, qs31, qb31, qa31⟩ := q31
    have ht31 := ht2.trans qt31
    have ha31 : ab m H31 = (tp 0 (ab m H2) (tn (ab m H2)) (0 : Int32) 0 0) := qa31
    refine mw_go mu_g159 (k := 3) (f1 := (229, [(1, .inl (ps_top H2)), (0, .inr (.inr (some 80)))], [.inl (mu_i H31 80 8), .inr (.inr (some 80))], H31)) (C := [mu_is H31 (some 80) 7]) rfl (show mu_is H31 (some 80) 7 from hp31.1.is rfl) ?_
    rw [(qi31 8)]
    refine mw_go mu_g159 (k := 5) (f1 := (237, [(1, .inl (ps_top H2)), (0, .inr (.inr (some 80)))], [.inl (69 : Int32), .inr (.inr (some 80))], (mu_si H31 80 8 ((mu_i H2 80 8) - (1 : Int32))))) (C := [mu_is H31 (some 80) 7]) rfl (show mu_is H31 (some 80) 7 from hp31.1.is rfl) ?_
    have hp32 : ps m (mu_si H31 80 8 ((mu_i H2 80 8) - (1 : Int32))) := hp31.si (by decide) (by decide)
    have ht32 : pt m B H (mu_si H31 80 8 ((mu_i H2 80 8) - (1 : Int32))) := ht31.trans (pt.si hp31)
    have ha32 : ab m (mu_si H31 80 8 ((mu_i H2 80 8) - (1 : Int32))) = (tp 0 (ab m H2) (tn (ab m H2)) (0 : Int32) 0 0) := (ab_si hp31.1 hp31.2.1).trans ha31
    have hb32 : ps_pot m (mu_si H31 80 8 ((mu_i H2 80 8) - (1 : Int32))) = ps_pot m H31 := ps_potj hp31 ((mu_i H2 80 8) - (1 : Int32)) (by decide) (by decide)
    have hs32 : gi_sz (mu_si H31 80 8 ((mu_i H2 80 8) - (1 : Int32))) 89 = gi_sz H31 89 := rfl
    have hi33_3 : mu_i (mu_si H31 80 8 ((mu_i H2 80 8) - (1 : Int32))) 80 3 = (mu_i H 80 3) := ((qi31 3).trans ((qi2 3 (by decide)).trans (qi1 3 (by decide))))
    have hi33_4 : mu_i (mu_si H31 80 8 ((mu_i H2 80 8) - (1 : Int32))) 80 4 = (mu_i H 80 4) := ((qi31 4).trans ((qi2 4 (by decide)).trans (qi1 4 (by decide))))
    have hi33_5 : mu_i (mu_si H31 80 8 ((mu_i H2 80 8) - (1 : Int32))) 80 5 = (mu_i H 80 5) := ((qi31 5).trans ((qi2 5 (by decide)).trans (qi1 5 (by decide))))
    have hi33_6 : mu_i (mu_si H31 80 8 ((mu_i H2 80 8) - (1 : Int32))) 80 6 = (8 : Int32) := ((qi31 6).trans ((qi2 6 (by decide)).trans ((qi1 6 (by decide)).trans hm0)))
    have hi33_7 : mu_i (mu_si H31 80 8 ((mu_i H2 80 8) - (1 : Int32))) 80 7 = (mu_i H 80 7) := ((qi31 7).trans ((qi2 7 (by decide)).trans (qi1 7 (by decide))))
    have hi33_9 : mu_i (mu_si H31 80 8 ((mu_i H2 80 8) - (1 : Int32))) 80 9 = (mu_i H 80 9) := ((qi31 9).trans ((qi2 9 (by decide)).trans (qi1 9 (by decide))))
    have hi33_10 : mu_i (mu_si H31 80 8 ((mu_i H2 80 8) - (1 : Int32))) 80 10 = (mu_i H 80 10) := ((qi31 10).trans ((qi2 10 (by decide)).trans (qi1 10 (by decide))))
    have hi33_11 : mu_i (mu_si H31 80 8 ((mu_i H2 80 8) - (1 : Int32))) 80 11 = (mu_i H 80 11) := ((qi31 11).trans ((qi2 11 (by decide)).trans (qi1 11 (by decide))))
    refine mw_cI (fun _ => rfl) (show mu_is (mu_si H31 80 8 ((mu_i H2 80 8) - (1 : Int32))) (some 80) 7 from hp32.1.is rfl) (pb_take (d := (d + 4)) (B := B) hp32 (69 : Int32) (by decide)) (fun x34 H34 q34 => ?_)
    rcases q34 with ⟨rfl, rfl, qe34⟩ | ⟨rfl, hp34, qt34, qk34, qb34, qe34, qa34⟩
    · -- (0 : Int32)
      refine mw_if (P := (0 : Int32) = 0) (a := 254) (b := 243) (fun _ => rfl) trivial (fun h35 => ?_) (fun h35 => absurd (by decide) h35)
      refine mw_go mu_g159 (k := 1) (f1 := (255, [(1, .inl (ps_top H2)), (0, .inr (.inr (some 80)))], [.inl (0 : Int32)], (mu_si H31 80 8 ((mu_i H2 80 8) - (1 : Int32))))) (C := []) rfl trivial ?_
      exact mw_of (fun _ => mu_ret rfl (Or.inl rfl) ⟨_, (mu_si H31 80 8 ((mu_i H2 80 8) - (1 : Int32))), rfl, Or.inl ⟨rfl, hp32, ht32, by omega⟩⟩)
    · -- (1 : Int32)
      have ht34 := ht32.trans qt34
      have qs34 : gi_sz H34 89 = gi_sz (mu_si H31 80 8 ((mu_i H2 80 8) - (1 : Int32))) 89 := qk34.2
      have ha34 : ab m H34 = (tp 0 (ab m H2) (tn (ab m H2)) (0 : Int32) 0 0) := qa34.trans (by rw [ha32])
      refine mw_if (P := (1 : Int32) = 0) (a := 254) (b := 243) (fun _ => rfl) trivial (fun h36 => absurd h36 (by decide)) (fun h36 => ?_)
      refine mw_go mu_g159 (k := 1) (f1 := (244, [(1, .inl (ps_top H2)), (0, .inr (.inr (some 80)))], [.inr (.inr (some 80))], H34)) (C := []) rfl trivial ?_
      refine mw_cI (fun _ => rfl) (show mu_is H34 (some 80) 7 from hp34.1.is rfl) (pb_part (d := (d + 3)) (B := B) hp34) (fun x37 H37 q37 => ?_)
      rcases q37 with ⟨rfl, hp37, qt37, qi37, qs37, qb37, qm37, qa37⟩
      · -- (1 : Int32)
        have ht37 := ht34.trans qt37
        have hc37 : ps_mp (mu_i H34 80 6) = 2 := by rw [show mu_i H34 80 6 = (8 : Int32) from ((qk34.1 6 (by decide)).trans hi33_6)]; rfl
        have ha37 : ab m H37 = (td (tp 0 (ab m H2) (tn (ab m H2)) (0 : Int32) 0 0)) := qa37.trans (by rw [ha34])
        have hw37 : ps_mp (8 : Int32) = 2 := rfl
        refine mw_if (P := (1 : Int32) = 0) (a := 254) (b := 250) (fun _ => rfl) trivial (fun h38 => absurd h38 (by decide)) (fun h38 => ?_)
        refine mw_go mu_g159 (k := 2) (f1 := (255, [(1, .inl (ps_top H2)), (0, .inr (.inr (some 80)))], [.inl (1 : Int32)], H37)) (C := []) rfl trivial ?_
        exact mw_of (fun _ => mu_ret rfl (Or.inr rfl) ⟨_, H37, rfl, Or.inr ⟨rfl, hp37, ht37, by omega, (PC_c (show mu_i H37 80 6 = 8 from qm37) (show mu_i H37 80 9 = nI f from (((qi37 9 (by decide)).trans ((qk34.1 9 (by decide)).trans hi33_9)).trans hfr)) ha37 (hy2.goal (tq_top hp2 rfl (k := 46) h29 (by decide)) (pot_0 (m := m) (H := H2) (by omega))) (Or.inr (Or.inr (Or.inl ⟨rfl, rfl, rfl⟩))))⟩⟩)
  · -- 47: 256
    have h39 : (ps_top H2) = (47 : Int32) := Int32.toInt_inj.mp (z.trans (by decide))
    have hz39 := ps_top_sz hp2 h39 (by decide)
    refine mw_go mu_g159 (k := 2) (f1 := (259, [(1, .inl (ps_top H2)), (0, .inr (.inr (some 80)))], [.inl (30 : Int32), .inr (.inr (some 80))], H2)) (C := []) rfl trivial ?_
    refine mw_cI (fun _ => rfl) (show mu_is H2 (some 80) 7 from hp2.1.is rfl) (pb_listed (d := (d + 2)) (B := B) hp2 hBB (by omega) (30 : Int32) (show mu_i H2 80 9 = nI f from (((qi2 9 (by decide)).trans (qi1 9 (by decide))).trans hfr)) hy2 (Or.inl ⟨(tq_top hp2 rfl (k := 47) h39 (by decide)), rfl⟩) (by omega) (show mu_i H2 80 6 = 8 from ((qi2 6 (by decide)).trans ((qi1 6 (by decide)).trans hm0)))) (fun x40 H40 q40 => ?_)
    rcases q40 with ⟨rfl, hp40, qt40, qb40⟩ | ⟨rfl, hp40, qt40, qb40, qp40⟩
    · -- (0 : Int32)
      have ht40 := ht2.trans qt40
      have hc40 : ps_mp (mu_i H2 80 6) = 2 := by rw [show mu_i H2 80 6 = (8 : Int32) from ((qi2 6 (by decide)).trans ((qi1 6 (by decide)).trans hm0))]; rfl
      exact mw_of (fun _ => mu_ret rfl (Or.inl rfl) ⟨_, H40, rfl, Or.inl ⟨rfl, hp40, ht40, by omega⟩⟩)
    · -- (1 : Int32)
      have ht40 := ht2.trans qt40
      have hc40 : ps_mp (mu_i H2 80 6) = 2 := by rw [show mu_i H2 80 6 = (8 : Int32) from ((qi2 6 (by decide)).trans ((qi1 6 (by decide)).trans hm0))]; rfl
      exact mw_of (fun _ => mu_ret rfl (Or.inr rfl) ⟨_, H40, rfl, Or.inr ⟨rfl, hp40, ht40, by omega, qp40⟩⟩)
  · -- 48: 270
    have h41 : (ps_top H2) = (48 : Int32) := Int32.toInt_inj.mp (z.trans (by decide))
    have hz41 := ps_top_sz hp2 h41 (by decide)
    refine mw_go mu_g159 (k := 2) (f1 := (273, [(1, .inl (ps_top H2)), (0, .inr (.inr (some 80)))], [.inl (72 : Int32), .inr (.inr (some 80))], H2)) (C := []) rfl trivial ?_
    refine mw_cI (fun _ => rfl) (show mu_is H2 (some 80) 7 from hp2.1.is rfl) (pb_take (d := (d + 4)) (B := B) hp2 (72 : Int32) (by decide)) (fun x42 H42 q42 => ?_)
    rcases q42 with ⟨rfl, rfl, qe42⟩ | ⟨rfl, hp42, qt42, qk42, qb42, qe42, qa42⟩
    · -- (0 : Int32)
      refine mw_if (P := (0 : Int32) = 0) (a := 297) (b := 279) (fun _ => rfl) trivial (fun h43 => ?_) (fun h43 => absurd (by decide) h43)
      refine mw_go mu_g159 (k := 1) (f1 := (298, [(1, .inl (ps_top H2)), (0, .inr (.inr (some 80)))], [.inl (0 : Int32)], H2)) (C := []) rfl trivial ?_
      exact mw_of (fun _ => mu_ret rfl (Or.inl rfl) ⟨_, H2, rfl, Or.inl ⟨rfl, hp2, ht2, by omega⟩⟩)
    · -- (1 : Int32)
      have ht42 := ht2.trans qt42
      have qs42 : gi_sz H42 89 = gi_sz H2 89 := qk42.2
      have ha42 : ab m H42 = (ab m H2) := qa42
      refine mw_if (P := (1 : Int32) = 0) (a := 297) (b := 279) (fun _ => rfl) trivial (fun h44 => absurd h44 (by decide)) (fun h44 => ?_)
      refine mw_go mu_g159 (k := 3) (f1 := (283, [(1, .inl (ps_top H2)), (0, .inr (.inr (some 80)))], [.inr (.inr (some 80)), .inl (49 : Int32), .inr (.inr (some 80))], H42)) (C := []) rfl trivial ?_
      refine mw_cIe (fun _ => rfl) (show mu_is H42 (some 80) 7 from hp42.1.is rfl) (pb_note (d := (d + 5)) hp42 ha42) ?_
      refine mw_go mu_g159 (k := 1) (f1 := (287, [(1, .inl (ps_top H2)), (0, .inr (.inr (some 80)))], [.inl (5 : Int32), .inl (tn (ab m H2)), .inl (49 : Int32), .inr (.inr (some 80))], H42)) (C := []) rfl trivial ?_
      refine mw_cI (fun _ => rfl) (show mu_is H42 (some 80) 7 from hp42.1.is rfl) (pb_turn (d := (d + 5)) (B := B) hp42 (49 : Int32) (tn (ab m H2)) (5 : Int32) ⟨49, by decide, rfl⟩) (fun x46 H46 q46 => ?_)
      rcases q46 with ⟨rfl, hp46, qt46, qi46, qs46, qb46, qm46, qa46⟩
      · -- (1 : Int32)
        have ht46 := ht42.trans qt46
        have hc46 : ps_mp (mu_i H42 80 6) = 2 := by rw [show mu_i H42 80 6 = (8 : Int32) from ((qk42.1 6 (by decide)).trans ((qi2 6 (by decide)).trans ((qi1 6 (by decide)).trans hm0)))]; rfl
        have ha46 : ab m H46 = (tu (ab m H2) (49 : Int32) (tn (ab m H2))) := qa46.trans (by rw [ha42])
        have hw46 : ps_mp (5 : Int32) = 0 := rfl
        refine mw_if (P := (1 : Int32) = 0) (a := 297) (b := 293) (fun _ => rfl) trivial (fun h47 => absurd h47 (by decide)) (fun h47 => ?_)
        refine mw_go mu_g159 (k := 2) (f1 := (298, [(1, .inl (ps_top H2)), (0, .inr (.inr (some 80)))], [.inl (1 : Int32)], H46)) (C := []) rfl trivial ?_
        exact mw_of (fun _ => mu_ret rfl (Or.inr rfl) ⟨_, H46, rfl, Or.inr ⟨rfl, hp46, ht46, by omega, (PC_c (show mu_i H46 80 6 = 5 from qm46) (show mu_i H46 80 9 = nI f from (((qi46 9 (by decide)).trans ((qk42.1 9 (by decide)).trans ((qi2 9 (by decide)).trans (qi1 9 (by decide))))).trans hfr)) ha46 (hy2.cond (tq_top hp2 rfl (k := 48) h41 (by decide))) (Or.inl ⟨Or.inl rfl, rfl, rfl⟩))⟩⟩)
  · -- 49: 329
    have h48 : (ps_top H2) = (49 : Int32) := Int32.toInt_inj.mp (z.trans (by decide))
    have hz48 := ps_top_sz hp2 h48 (by decide)
    refine mw_go mu_g159 (k := 1) (f1 := (330, [(1, .inl (ps_top H2)), (0, .inr (.inr (some 80)))], [.inr (.inr (some 80))], H2)) (C := []) rfl trivial ?_
    refine mw_cI (fun _ => rfl) (show mu_is H2 (some 80) 7 from hp2.1.is rfl) (pb_branched (d := d) (B := B) hp2 hBB (by omega) (show mu_i H2 80 9 = nI f from (((qi2 9 (by decide)).trans (qi1 9 (by decide))).trans hfr)) hy2 (tq_top hp2 rfl (k := 49) h48 (by decide)) (by omega) (show mu_i H2 80 6 = 8 from ((qi2 6 (by decide)).trans ((qi1 6 (by decide)).trans hm0)))) (fun x49 H49 q49 => ?_)
    rcases q49 with ⟨rfl, hp49, qt49, qb49⟩ | ⟨rfl, hp49, qt49, qb49, qp49⟩
    · -- (0 : Int32)
      have ht49 := ht2.trans qt49
      have hc49 : ps_mp (mu_i H2 80 6) = 2 := by rw [show mu_i H2 80 6 = (8 : Int32) from ((qi2 6 (by decide)).trans ((qi1 6 (by decide)).trans hm0))]; rfl
      exact mw_of (fun _ => mu_ret rfl (Or.inl rfl) ⟨_, H49, rfl, Or.inl ⟨rfl, hp49, ht49, by omega⟩⟩)
    · -- (1 : Int32)
      have ht49 := ht2.trans qt49
      have hc49 : ps_mp (mu_i H2 80 6) = 2 := by rw [show mu_i H2 80 6 = (8 : Int32) from ((qi2 6 (by decide)).trans ((qi1 6 (by decide)).trans hm0))]; rfl
      exact mw_of (fun _ => mu_ret rfl (Or.inr rfl) ⟨_, H49, rfl, Or.inr ⟨rfl, hp49, ht49, by omega, qp49⟩⟩)
  · -- 50: 263
    have h50 : (ps_top H2) = (50 : Int32) := Int32.toInt_inj.mp (z.trans (by decide))
    have hz50 := ps_top_sz hp2 h50 (by decide)
    refine mw_go mu_g159 (k := 2) (f1 := (266, [(1, .inl (ps_top H2)), (0, .inr (.inr (some 80)))], [.inl (33 : Int32), .inr (.inr (some 80))], H2)) (C := []) rfl trivial ?_
    refine mw_cI (fun _ => rfl) (show mu_is H2 (some 80) 7 from hp2.1.is rfl) (pb_listed (d := (d + 2)) (B := B) hp2 hBB (by omega) (33 : Int32) (show mu_i H2 80 9 = nI f from (((qi2 9 (by decide)).trans (qi1 9 (by decide))).trans hfr)) hy2 (Or.inr ⟨(tq_top hp2 rfl (k := 50) h50 (by decide)), rfl⟩) (by omega) (show mu_i H2 80 6 = 8 from ((qi2 6 (by decide)).trans ((qi1 6 (by decide)).trans hm0)))) (fun x51 H51 q51 => ?_)
    rcases q51 with ⟨rfl, hp51, qt51, qb51⟩ | ⟨rfl, hp51, qt51, qb51, qp51⟩
    · -- (0 : Int32)
      have ht51 := ht2.trans qt51
      have hc51 : ps_mp (mu_i H2 80 6) = 2 := by rw [show mu_i H2 80 6 = (8 : Int32) from ((qi2 6 (by decide)).trans ((qi1 6 (by decide)).trans hm0))]; rfl
      exact mw_of (fun _ => mu_ret rfl (Or.inl rfl) ⟨_, H51, rfl, Or.inl ⟨rfl, hp51, ht51, by omega⟩⟩)
    · -- (1 : Int32)
      have ht51 := ht2.trans qt51
      have hc51 : ps_mp (mu_i H2 80 6) = 2 := by rw [show mu_i H2 80 6 = (8 : Int32) from ((qi2 6 (by decide)).trans ((qi1 6 (by decide)).trans hm0))]; rfl
      exact mw_of (fun _ => mu_ret rfl (Or.inr rfl) ⟨_, H51, rfl, Or.inr ⟨rfl, hp51, ht51, by omega, qp51⟩⟩)
  · -- 51: 334
    have h52 : (ps_top H2) = (51 : Int32) := Int32.toInt_inj.mp (z.trans (by decide))
    have hz52 := ps_top_sz hp2 h52 (by decide)
    refine mw_go mu_g159 (k := 3) (f1 := (338, [(1, .inl (ps_top H2)), (0, .inr (.inr (some 80)))], [.inl (0 : Int32), .inl (32 : Int32), .inr (.inr (some 80))], H2)) (C := []) rfl trivial ?_
    refine mw_cV (fun _ => rfl) (show mu_is H2 (some 80) 7 from hp2.1.is rfl) (pb_emit (d := (d + 3)) (B := B) hp2 hBB (by omega) (32 : Int32) (0 : Int32)) (fun H53 q53 => ?_)
    obtain ⟨hp53, qt53, qi53, qs53, qb53, qa53⟩ := q53
    have ht53 := ht2.trans qt53
    have ha53 : ab m H53 = (tp 0 (ab m H2) (32 : Int32) (0 : Int32) 0 0) := qa53
    refine mw_go mu_g159 (k := 1) (f1 := (342, [(1, .inl (ps_top H2)), (0, .inr (.inr (some 80)))], [.inr (.inr (some 80))], H53)) (C := []) rfl trivial ?_
    refine mw_cV (fun _ => rfl) (show mu_is H53 (some 80) 7 from hp53.1.is rfl) (pb_drop (d := (d + 4)) (B := B) hp53) (fun H54 q54 => ?_)
    obtain ⟨hp54, qt54, qi54, qs54, qb54, qa54⟩ := q54
    have ht54 := ht53.trans qt54
    have ha54 : ab m H54 = (td (tp 0 (ab m H2) (32 : Int32) (0 : Int32) 0 0)) := qa54.trans (by rw [ha53])
    refine mw_go mu_g159 (k := 4) (f1 := (352, [(1, .inl (ps_top H2)), (0, .inr (.inr (some 80)))], [.inl (1 : Int32)], (mu_si H54 80 6 (9 : Int32)))) (C := [mu_is H54 (some 80) 7]) rfl (show mu_is H54 (some 80) 7 from hp54.1.is rfl) ?_
    have hp55 : ps m (mu_si H54 80 6 (9 : Int32)) := hp54.si (by decide) (by decide)
    have ht55 : pt m B H (mu_si H54 80 6 (9 : Int32)) := ht54.trans (pt.si hp54)
    have ha55 : ab m (mu_si H54 80 6 (9 : Int32)) = (td (tp 0 (ab m H2) (32 : Int32) (0 : Int32) 0 0)) := (ab_si hp54.1 hp54.2.1).trans ha54
    have hb55 : ps_pot m (mu_si H54 80 6 (9 : Int32)) + ps_mp (mu_i H54 80 6) = ps_pot m H54 + 0 := ps_pot6 hp54 (9 : Int32)
    have hc55 : ps_mp (mu_i H54 80 6) = 2 := by rw [show mu_i H54 80 6 = (8 : Int32) from ((qi54 6).trans ((qi53 6).trans ((qi2 6 (by decide)).trans ((qi1 6 (by decide)).trans hm0))))]; rfl
    have hs55 : gi_sz (mu_si H54 80 6 (9 : Int32)) 89 = gi_sz H54 89 := rfl
    have hi56_3 : mu_i (mu_si H54 80 6 (9 : Int32)) 80 3 = (mu_i H 80 3) := ((qi54 3).trans ((qi53 3).trans ((qi2 3 (by decide)).trans (qi1 3 (by decide)))))
    have hi56_4 : mu_i (mu_si H54 80 6 (9 : Int32)) 80 4 = (mu_i H 80 4) := ((qi54 4).trans ((qi53 4).trans ((qi2 4 (by decide)).trans (qi1 4 (by decide)))))
    have hi56_5 : mu_i (mu_si H54 80 6 (9 : Int32)) 80 5 = (mu_i H 80 5) := ((qi54 5).trans ((qi53 5).trans ((qi2 5 (by decide)).trans (qi1 5 (by decide)))))
    have hi56_7 : mu_i (mu_si H54 80 6 (9 : Int32)) 80 7 = (mu_i H 80 7) := ((qi54 7).trans ((qi53 7).trans ((qi2 7 (by decide)).trans (qi1 7 (by decide)))))
    have hi56_8 : mu_i (mu_si H54 80 6 (9 : Int32)) 80 8 = (mu_i H2 80 8) := ((qi54 8).trans (qi53 8))
    have hi56_9 : mu_i (mu_si H54 80 6 (9 : Int32)) 80 9 = (mu_i H 80 9) := ((qi54 9).trans ((qi53 9).trans ((qi2 9 (by decide)).trans (qi1 9 (by decide)))))
    have hi56_10 : mu_i (mu_si H54 80 6 (9 : Int32)) 80 10 = (mu_i H 80 10) := ((qi54 10).trans ((qi53 10).trans ((qi2 10 (by decide)).trans (qi1 10 (by decide)))))
    have hi56_11 : mu_i (mu_si H54 80 6 (9 : Int32)) 80 11 = (mu_i H 80 11) := ((qi54 11).trans ((qi53 11).trans ((qi2 11 (by decide)).trans (qi1 11 (by decide)))))
    exact mw_of (fun _ => mu_ret rfl (Or.inr rfl) ⟨_, (mu_si H54 80 6 (9 : Int32)), rfl, Or.inr ⟨rfl, hp55, ht55, by omega, (PC_c (show mu_i (mu_si H54 80 6 (9 : Int32)) 80 6 = 9 from rfl) (show mu_i (mu_si H54 80 6 (9 : Int32)) 80 9 = nI f from (hi56_9.trans hfr)) ha55 (hy2.one (tq_top hp2 rfl (k := 51) h52 (by decide)) (pot_0 (m := m) (H := H2) (by omega))) (Or.inr (Or.inr (Or.inr ⟨rfl, rfl, rfl⟩))))⟩⟩)
  · -- 52: 299
    have h57 : (ps_top H2) = (52 : Int32) := Int32.toInt_inj.mp (z.trans (by decide))
    have hz57 := ps_top_sz hp2 h57 (by decide)
    refine mw_go mu_g159 (k := 2) (f1 := (302, [(1, .inl (ps_top H2)), (0, .inr (.inr (some 80)))], [.inl (72 : Int32), .inr (.inr (some 80))], H2)) (C := []) rfl trivial ?_
    refine mw_cI (fun _ => rfl) (show mu_is H2 (some 80) 7 from hp2.1.is rfl) (pb_take (d := (d + 4)) (B := B) hp2 (72 : Int32) (by decide)) (fun x58 H58 q58 => ?_)
    rcases q58 with ⟨rfl, rfl, qe58⟩ | ⟨rfl, hp58, qt58, qk58, qb58, qe58, qa58⟩
    · -- (0 : Int32)
      refine mw_if (P := (0 : Int32) = 0) (a := 327) (b := 308) (fun _ => rfl) trivial (fun h59 => ?_) (fun h59 => absurd (by decide) h59)
      refine mw_go mu_g159 (k := 1) (f1 := (328, [(1, .inl (ps_top H2)), (0, .inr (.inr (some 80)))], [.inl (0 : Int32)], H2)) (C := []) rfl trivial ?_
      exact mw_of (fun _ => mu_ret rfl (Or.inl rfl) ⟨_, H2, rfl, Or.inl ⟨rfl, hp2, ht2, by omega⟩⟩)
    · -- (1 : Int32)
      have ht58 := ht2.trans qt58
      have qs58 : gi_sz H58 89 = gi_sz H2 89 := qk58.2
      have ha58 : ab m H58 = (ab m H2) := qa58
      refine mw_if (P := (1 : Int32) = 0) (a := 327) (b := 308) (fun _ => rfl) trivial (fun h60 => absurd h60 (by decide)) (fun h60 => ?_)
      refine mw_go mu_g159 (k := 3) (f1 := (312, [(1, .inl (ps_top H2)), (0, .inr (.inr (some 80)))], [.inr (.inr (some 80)), .inl (53 : Int32), .inr (.inr (some 80))], H58)) (C := []) rfl trivial ?_
      refine mw_cIe (fun _ => rfl) (show mu_is H58 (some 80) 7 from hp58.1.is rfl) (pb_note (d := (d + 5)) hp58 ha58) ?_
      refine mw_go mu_g159 (k := 1) (f1 := (317, [(1, .inl (ps_top H2)), (0, .inr (.inr (some 80)))], [.inl (7 : Int32), .inl (tn (ab m H2)), .inl (53 : Int32), .inr (.inr (some 80))], H58)) (C := []) rfl trivial ?_
      refine mw_cI (fun _ => rfl) (show mu_is H58 (some 80) 7 from hp58.1.is rfl) (pb_turn (d := (d + 5)) (B := B) hp58 (53 : Int32) (tn (ab m H2)) (7 : Int32) ⟨53, by decide, rfl⟩) (fun x62 H62 q62 => ?_)
      rcases q62 with ⟨rfl, hp62, qt62, qi62, qs62, qb62, qm62, qa62⟩
      · -- (1 : Int32)
        have ht62 := ht58.trans qt62
        have hc62 : ps_mp (mu_i H58 80 6) = 2 := by rw [show mu_i H58 80 6 = (8 : Int32) from ((qk58.1 6 (by decide)).trans ((qi2 6 (by decide)).trans ((qi1 6 (by decide)).trans hm0)))]; rfl
        have ha62 : ab m H62 = (tu (ab m H2) (53 : Int32) (tn (ab m H2))) := qa62.trans (by rw [ha58])
        have hw62 : ps_mp (7 : Int32) = 4 := rfl
        refine mw_if (P := (1 : Int32) = 0) (a := 327) (b := 323) (fun _ => rfl) trivial (fun h63 => absurd h63 (by decide)) (fun h63 => ?_)
        refine mw_go mu_g159 (k := 2) (f1 := (328, [(1, .inl (ps_top H2)), (0, .inr (.inr (some 80)))], [.inl (1 : Int32)], H62)) (C := []) rfl trivial ?_
        exact mw_of (fun _ => mu_ret rfl (Or.inr rfl) ⟨_, H62, rfl, Or.inr ⟨rfl, hp62, ht62, by omega, (PC_c (show mu_i H62 80 6 = 7 from qm62) (show mu_i H62 80 9 = nI f from (((qi62 9 (by decide)).trans ((qk58.1 9 (by decide)).trans ((qi2 9 (by decide)).trans (qi1 9 (by decide))))).trans hfr)) ha62 (hy2.pcond (tq_top hp2 rfl (k := 52) h57 (by decide))) (Or.inr (Or.inl ⟨rfl, rfl, rfl⟩)))⟩⟩)
theorem pb_operator (h : ps m H) (hBB : B ≤ 1000000) (hB : ps_pot m H ≤ B + 80) {f : Nat} (hfr : mu_i H 80 9 = nI f) (hy : cy (ab m H) f [false] false) (hm0 : mu_i H 80 6 = 8) : mu_TI (mu_D (d + 9)) 142 [.inr (.inr (some 80))] H (fun x H1 => (x = 0 ∧ ps m H1 ∧ pt m B H H1 ∧ ps_pot m H1 ≤ ps_pot m H + 60) ∨ (x = 1 ∧ ps m H1 ∧ pt m B H H1 ∧ ps_pot m H1 + 0 ≤ ps_pot m H ∧ PC m H1)) := by
  refine mu_meth (M := mu_m142) rfl rfl ?_
  refine mw_ht (mu_fn_of (show [0].Nodup by decide)) ?_
  refine mw_go mu_g142 (k := 2) (f1 := (4, [(0, .inr (.inr (some 80)))], [.inl (mu_i H 80 4)], H)) (C := [mu_is H (some 80) 7]) rfl (show mu_is H (some 80) 7 from h.1.is rfl) ?_
  refine mw_cI (fun _ => rfl) trivial (pb_bin (d := (d + 7)) (mu_i H 80 4)) (fun x1 H1 q1 => ?_)
  rcases q1 with ⟨rfl, rfl⟩ | ⟨k, hkb, rfl, qw1, rfl⟩
  · -- (-1 : Int32)
    refine mw_go mu_g142 (k := 2) (f1 := (9, [(1, .inl (-1 : Int32)), (0, .inr (.inr (some 80)))], [.inl (-1 : Int32)], H)) (C := []) rfl trivial ?_
    refine mw_if (P := (-1 : Int32) < 0) (a := 12) (b := 17) (fun _ => rfl) trivial (fun h2 => ?_) (fun h2 => absurd (by decide) h2)
    refine mw_go mu_g142 (k := 1) (f1 := (13, [(1, .inl (-1 : Int32)), (0, .inr (.inr (some 80)))], [.inr (.inr (some 80))], H)) (C := []) rfl trivial ?_
    refine mw_cI (fun _ => rfl) (show mu_is H (some 80) 7 from h.1.is rfl) (pb_closer (d := d) (B := B) h hBB (by omega) (show mu_i H 80 9 = nI f from hfr) hy (show mu_i H 80 6 = 8 from hm0)) (fun x3 H3 q3 => ?_)
    rcases q3 with ⟨rfl, hp3, qt3, qb3⟩ | ⟨rfl, hp3, qt3, qb3, qp3⟩
    · -- (0 : Int32)
      have ht3 := (pt.refl m B H).trans qt3
      have hc3 : ps_mp (mu_i H 80 6) = 2 := by rw [show mu_i H 80 6 = (8 : Int32) from hm0]; rfl
      exact mw_of (fun _ => mu_ret rfl (Or.inl rfl) ⟨_, H3, rfl, Or.inl ⟨rfl, hp3, ht3, by omega⟩⟩)
    · -- (1 : Int32)
      have ht3 := (pt.refl m B H).trans qt3
      have hc3 : ps_mp (mu_i H 80 6) = 2 := by rw [show mu_i H 80 6 = (8 : Int32) from hm0]; rfl
      exact mw_of (fun _ => mu_ret rfl (Or.inr rfl) ⟨_, H3, rfl, Or.inr ⟨rfl, hp3, ht3, by omega, qp3⟩⟩)
  · -- (nI k)
    have hk4 : 4 ≤ k := by omega
    have hk31 : k < 31 := by omega
    refine mw_go mu_g142 (k := 2) (f1 := (9, [(1, .inl (nI k)), (0, .inr (.inr (some 80)))], [.inl (nI k)], H)) (C := []) rfl trivial ?_
    refine mw_if (P := (nI k) < 0) (a := 12) (b := 17) (fun _ => rfl) trivial (fun h4 => ?_) (fun h4 => ?_)
    · -- 12: (nI k) < 0
      exact absurd h4 (nI_pos (by omega))
    · -- 17: not (nI k) < 0
      refine mw_go mu_g142 (k := 2) (f1 := (20, [(1, .inl (nI k)), (0, .inr (.inr (some 80)))], [.inl (30 : Int32), .inl (nI k)], H)) (C := []) rfl trivial ?_
      refine mw_if (P := (nI k) = (30 : Int32)) (a := 23) (b := 28) (fun _ => rfl) trivial (fun h5 => ?_) (fun h5 => ?_)
      · -- 23: (nI k) = (30 : Int32)
        refine mw_go mu_g142 (k := 6) (f1 := (39, [(2, .inl (6 : Int32)), (1, .inl (nI k)), (0, .inr (.inr (some 80)))], [.inl (mu_i H 80 7), .inl (6 : Int32)], H)) (C := [mu_is H (some 80) 7]) rfl (show mu_is H (some 80) 7 from h.1.is rfl) ?_
        refine mw_if (P := (mu_i H 80 7) < (6 : Int32)) (a := 42) (b := 44) (fun _ => rfl) trivial (fun h6 => ?_) (fun h6 => ?_)
        · -- 42: (mu_i H 80 7) < (6 : Int32)
          refine mw_go mu_g142 (k := 1) (f1 := (43, [(2, .inl (6 : Int32)), (1, .inl (nI k)), (0, .inr (.inr (some 80)))], [.inl (0 : Int32)], H)) (C := []) rfl trivial ?_
          exact mw_of (fun _ => mu_ret rfl (Or.inl rfl) ⟨_, H, rfl, Or.inl ⟨rfl, h, (pt.refl m B H), by omega⟩⟩)
        · -- 44: not (mu_i H 80 7) < (6 : Int32)
          refine mw_go mu_g142 (k := 2) (f1 := (46, [(2, .inl (6 : Int32)), (1, .inl (nI k)), (0, .inr (.inr (some 80)))], [.inl (4 : Int32), .inl (6 : Int32)], H)) (C := []) rfl trivial ?_
          refine mw_if (P := (4 : Int32) < (6 : Int32)) (a := 53) (b := 49) (fun _ => rfl) trivial (fun h7 => ?_) (fun h7 => absurd (by decide) h7)
          refine mw_go mu_g142 (k := 2) (f1 := (55, [(2, .inl (6 : Int32)), (1, .inl (nI k)), (0, .inr (.inr (some 80)))], [.inl (2 : Int32), .inl (6 : Int32)], H)) (C := []) rfl trivial ?_
          refine mw_if (P := (6 : Int32) = (2 : Int32)) (a := 68) (b := 58) (fun _ => rfl) trivial (fun h8 => absurd h8 (by decide)) (fun h8 => ?_)
          refine mw_go mu_g142 (k := 2) (f1 := (61, [(2, .inl (6 : Int32)), (1, .inl (nI k)), (0, .inr (.inr (some 80)))], [.inl (6 : Int32), .inl (6 : Int32)], H)) (C := []) rfl trivial ?_
          refine mw_if (P := (6 : Int32) = (6 : Int32)) (a := 68) (b := 64) (fun _ => rfl) trivial (fun h9 => ?_) (fun h9 => absurd (by decide) h9)
          refine mw_go mu_g142 (k := 4) (f1 := (72, [(3, .inl (0 : Int32)), (2, .inl (6 : Int32)), (1, .inl (nI k)), (0, .inr (.inr (some 80)))], [.inl (0 : Int32), .inr (.inr (some 80))], H)) (C := []) rfl trivial ?_
          refine mw_if (P := (0 : Int32) = 0) (a := 79) (b := 75) (fun _ => rfl) trivial (fun h10 => ?_) (fun h10 => absurd (by decide) h10)
          refine mw_go mu_g142 (k := 3) (f1 := (82, [(3, .inl (0 : Int32)), (2, .inl (6 : Int32)), (1, .inl (nI k)), (0, .inr (.inr (some 80)))], [.inl ((6 : Int32) + (1 : Int32)), .inr (.inr (some 80))], H)) (C := []) rfl trivial ?_
          refine mw_cI (fun _ => rfl) (show mu_is H (some 80) 7 from h.1.is rfl) (pb_unwind (d := (d + 2)) (B := B) (f := f) h hBB (by omega) ((6 : Int32) + (1 : Int32)) hy (by decide)) (fun x11 H11 q11 => ?_)
          obtain ⟨hp11, qt11, qi11, qb11, qs11, hy11, ql11⟩ := q11
          have ht11 := (pt.refl m B H).trans qt11
          have hc11 : ps_mp (mu_i H 80 6) = 2 := by rw [show mu_i H 80 6 = (8 : Int32) from hm0]; rfl
          refine mw_go mu_g142 (k := 3) (f1 := (90, [(4, .inl x11), (3, .inl (0 : Int32)), (2, .inl (6 : Int32)), (1, .inl (nI k)), (0, .inr (.inr (some 80)))], [.inl (6 : Int32), .inl (6 : Int32)], H11)) (C := []) rfl trivial ?_
          refine mw_if (P := (6 : Int32) = (6 : Int32)) (a := 93) (b := 108) (fun _ => rfl) trivial (fun h12 => ?_) (fun h12 => absurd (by decide) h12)
          refine mw_ot (fun hot => ?_)
          have hot : mu_ot H11 := hot
          refine mw_go mu_g142 (k := 2) (f1 := (97, [(4, .inl x11), (3, .inl (0 : Int32)), (2, .inl (6 : Int32)), (1, .inl (nI k)), (0, .inr (.inr (some 80)))], [.inr (.inr (some 80)), .inr (.inr (some 1001079))], H11)) (C := []) rfl trivial ?_
          refine mw_cIe (fun _ => rfl) (show mu_is H11 (some 80) 7 from hp11.1.is rfl) (pa_top (d := (d + 6)) hp11) ?_
          refine mw_go mu_g142 (k := 2) (f1 := (103, [(4, .inl x11), (3, .inl (0 : Int32)), (2, .inl (6 : Int32)), (1, .inl (nI k)), (0, .inr (.inr (some 80)))], [.inl (6 : Int32), .inl (mu_i H11 1001079 (ps_top H11).toNatClampNeg)], H11)) (C := [mu_isr H11 (some 1001079) 100, vp_in (ps_top H11) (mu_n H11 1001079)]) rfl (show (mu_isr H11 (some 1001079) 100) ∧ (vp_in (ps_top H11) (mu_n H11 1001079)) from ⟨(lv_ok hot).1, ps_lv hp11 hot⟩) ?_
          refine mw_if (P := (mu_i H11 1001079 (ps_top H11).toNatClampNeg) = (6 : Int32)) (a := 106) (b := 108) (fun _ => rfl) trivial (fun h14 => ?_) (fun h14 => ?_)
          · -- 106: (mu_i H11 1001079 (ps_top H11).toNatClampNeg) = (6 : Int32)
            refine mw_go mu_g142 (k := 1) (f1 := (107, [(4, .inl x11), (3, .inl (0 : Int32)), (2, .inl (6 : Int32)), (1, .inl (nI k)), (0, .inr (.inr (some 80)))], [.inl (0 : Int32)], H11)) (C := []) rfl trivial ?_
            exact mw_of (fun _ => mu_ret rfl (Or.inl rfl) ⟨_, H11, rfl, Or.inl ⟨rfl, hp11, ht11, by omega⟩⟩)
          · -- 108: not (mu_i H11 1001079 (ps_top H11).toNatClampNeg) = (6 : Int32)
            refine mw_go mu_g142 (k := 1) (f1 := (109, [(4, .inl x11), (3, .inl (0 : Int32)), (2, .inl (6 : Int32)), (1, .inl (nI k)), (0, .inr (.inr (some 80)))], [.inr (.inr (some 80))], H11)) (C := []) rfl trivial ?_
            refine mw_cV (fun _ => rfl) (show mu_is H11 (some 80) 7 from hp11.1.is rfl) (pb_adv (d := (d + 6)) (B := B) hp11) (fun H15 q15 => ?_)
            obtain ⟨⟨hp15, qt15, qk15, qb15, qc15⟩, qa15⟩ := q15
            have ht15 := ht11.trans qt15
            have qs15 : gi_sz H15 89 = gi_sz H11 89 := qk15.2
            have ha15 : ab m H15 = (ab m H11) := qa15
            have qd15 := qc15 (show mu_i H11 80 4 < 114 from (by rw [(qi11 4 (by decide))]; exact (show (mu_i H 80 4) < 114 from qw1)))
            refine mw_go mu_g142 (k := 2) (f1 := (115, [(4, .inl x11), (3, .inl (0 : Int32)), (2, .inl (6 : Int32)), (1, .inl (nI k)), (0, .inr (.inr (some 80)))], [.inl (30 : Int32), .inl (nI k)], H15)) (C := []) rfl trivial ?_
            refine mw_if (P := (nI k) = (30 : Int32)) (a := 118) (b := 137) (fun _ => rfl) trivial (fun _ => ?_) (fun h16 => absurd h5 h16)
            refine mw_go mu_g142 (k := 3) (f1 := (122, [(4, .inl x11), (3, .inl (0 : Int32)), (2, .inl (6 : Int32)), (1, .inl (nI k)), (0, .inr (.inr (some 80)))], [.inl (0 : Int32), .inl (47 : Int32), .inr (.inr (some 80))], H15)) (C := []) rfl trivial ?_
            refine mw_cV (fun _ => rfl) (show mu_is H15 (some 80) 7 from hp15.1.is rfl) (pb_push (d := (d + 4)) (B := B) hp15 hBB (by omega) (47 : Int32) (0 : Int32) ⟨47, by decide, rfl⟩) (fun H17 q17 => ?_)
            obtain ⟨hp17, qt17, qi17, qs17, qb17, qa17⟩ := q17
            have ht17 := ht15.trans qt17
            have ha17 : ab m H17 = (tp 11 (ab m H11) (47 : Int32) (0 : Int32) 0 0) := qa17.trans (by rw [ha15])
            refine mw_go mu_g142 (k := 5) (f1 := (133, [(4, .inl x11), (3, .inl (0 : Int32)), (2, .inl (6 : Int32)), (1, .inl (nI k)), (0, .inr (.inr (some 80)))], [.inl (66 : Int32), .inr (.inr (some 80))], (mu_si H17 80 6 (5 : Int32)))) (C := [mu_is H17 (some 80) 7]) rfl (show mu_is H17 (some 80) 7 from hp17.1.is rfl) ?_
            have hp18 : ps m (mu_si H17 80 6 (5 : Int32)) := hp17.si (by decide) (by decide)
            have ht18 : pt m B H (mu_si H17 80 6 (5 : Int32)) := ht17.trans (pt.si hp17)
            have ha18 : ab m (mu_si H17 80 6 (5 : Int32)) = (tp 11 (ab m H11) (47 : Int32) (0 : Int32) 0 0) := (ab_si hp17.1 hp17.2.1).trans ha17
            have hb18 : ps_pot m (mu_si H17 80 6 (5 : Int32)) + ps_mp (mu_i H17 80 6) = ps_pot m H17 + 0 := ps_pot6 hp17 (5 : Int32)
            have hc18 : ps_mp (mu_i H17 80 6) = 2 := by rw [show mu_i H17 80 6 = (8 : Int32) from ((qi17 6).trans ((qk15.1 6 (by decide)).trans ((qi11 6 (by decide)).trans hm0)))]; rfl
            have hs18 : gi_sz (mu_si H17 80 6 (5 : Int32)) 89 = gi_sz H17 89 := rfl
            have hi19_3 : mu_i (mu_si H17 80 6 (5 : Int32)) 80 3 = (mu_i H15 80 3) := (qi17 3)
            have hi19_4 : mu_i (mu_si H17 80 6 (5 : Int32)) 80 4 = (mu_i H15 80 4) := (qi17 4)
            have hi19_5 : mu_i (mu_si H17 80 6 (5 : Int32)) 80 5 = (mu_i H15 80 5) := (qi17 5)
            have hi19_7 : mu_i (mu_si H17 80 6 (5 : Int32)) 80 7 = (mu_i H 80 7) := ((qi17 7).trans ((qk15.1 7 (by decide)).trans (qi11 7 (by decide))))
            have hi19_8 : mu_i (mu_si H17 80 6 (5 : Int32)) 80 8 = (mu_i H11 80 8) := ((qi17 8).trans (qk15.1 8 (by decide)))
            have hi19_9 : mu_i (mu_si H17 80 6 (5 : Int32)) 80 9 = (mu_i H 80 9) := ((qi17 9).trans ((qk15.1 9 (by decide)).trans (qi11 9 (by decide))))
            have hi19_10 : mu_i (mu_si H17 80 6 (5 : Int32)) 80 10 = (mu_i H 80 10) := ((qi17 10).trans ((qk15.1 10 (by decide)).trans (qi11 10 (by decide))))
            have hi19_11 : mu_i (mu_si H17 80 6 (5 : Int32)) 80 11 = (mu_i H 80 11) := ((qi17 11).trans ((qk15.1 11 (by decide)).trans (qi11 11 (by decide))))
            refine mw_cI (fun _ => rfl) (show mu_is (mu_si H17 80 6 (5 : Int32)) (some 80) 7 from hp18.1.is rfl) (pb_take (d := (d + 5)) (B := B) hp18 (66 : Int32) (by decide)) (fun x20 H20 q20 => ?_)
            rcases q20 with ⟨rfl, rfl, qe20⟩ | ⟨rfl, hp20, qt20, qk20, qb20, qe20, qa20⟩
            · -- (0 : Int32)
              exact mw_of (fun _ => mu_ret rfl (Or.inl rfl) ⟨_, (mu_si H17 80 6 (5 : Int32)), rfl, Or.inl ⟨rfl, hp18, ht18, by omega⟩⟩)
            · -- (1 : Int32)
              have ht20 := ht18.trans qt20
              have qs20 : gi_sz H20 89 = gi_sz (mu_si H17 80 6 (5 : Int32)) 89 := qk20.2
              have ha20 : ab m H20 = (tp 11 (ab m H11) (47 : Int32) (0 : Int32) 0 0) := qa20.trans (by rw [ha18])
              exact mw_of (fun _ => mu_ret rfl (Or.inr rfl) ⟨_, H20, rfl, Or.inr ⟨rfl, hp20, ht20, by omega, (PC_c (show mu_i H20 80 6 = 5 from (qk20.1 6 (by decide))) (show mu_i H20 80 9 = nI f from (((qk20.1 9 (by decide)).trans hi19_9).trans hfr)) ha20 hy11.p47 (Or.inl ⟨Or.inl rfl, rfl, rfl⟩))⟩⟩)
      · -- 28: not (nI k) = (30 : Int32)
        have hkk : (4 ≤ k ∧ k ≤ 8) ∨ (16 ≤ k ∧ k ≤ 26) := by
          rcases hkb with z | z
          · exact z
          · exact absurd (by rw [z]; rfl) h5
        refine mw_ot (fun hot => ?_)
        have hot : mu_ot H := hot
        refine mw_go mu_g142 (k := 7) (f1 := (39, [(2, .inl (mu_i H 1001079 (nI k).toNatClampNeg)), (1, .inl (nI k)), (0, .inr (.inr (some 80)))], [.inl (mu_i H 80 7), .inl (mu_i H 1001079 (nI k).toNatClampNeg)], H)) (C := [mu_isr H (some 1001079) 100, vp_in (nI k) (mu_n H 1001079), mu_is H (some 80) 7]) rfl (show (mu_isr H (some 1001079) 100) ∧ (vp_in (nI k) (mu_n H 1001079)) ∧ (mu_is H (some 80) 7) from ⟨(lv_ok hot).1, (by rw [(lv_ok hot).2]; exact vp_in_nI (by omega) (by decide)), h.1.is rfl⟩) ?_
        refine mw_if (P := (mu_i H 80 7) < (mu_i H 1001079 (nI k).toNatClampNeg)) (a := 42) (b := 44) (fun _ => rfl) trivial (fun h21 => ?_) (fun h21 => ?_)
        · -- 42: (mu_i H 80 7) < (mu_i H 1001079 (nI k).toNatClampNeg)
          refine mw_go mu_g142 (k := 1) (f1 := (43, [(2, .inl (mu_i H 1001079 (nI k).toNatClampNeg)), (1, .inl (nI k)), (0, .inr (.inr (some 80)))], [.inl (0 : Int32)], H)) (C := []) rfl trivial ?_
          exact mw_of (fun _ => mu_ret rfl (Or.inl rfl) ⟨_, H, rfl, Or.inl ⟨rfl, h, (pt.refl m B H), by omega⟩⟩)
        · -- 44: not (mu_i H 80 7) < (mu_i H 1001079 (nI k).toNatClampNeg)
          refine mw_go mu_g142 (k := 2) (f1 := (46, [(2, .inl (mu_i H 1001079 (nI k).toNatClampNeg)), (1, .inl (nI k)), (0, .inr (.inr (some 80)))], [.inl (4 : Int32), .inl (mu_i H 1001079 (nI k).toNatClampNeg)], H)) (C := []) rfl trivial ?_
          refine mw_if (P := (4 : Int32) < (mu_i H 1001079 (nI k).toNatClampNeg)) (a := 53) (b := 49) (fun _ => rfl) trivial (fun h22 => ?_) (fun h22 => ?_)
          · -- 53: (4 : Int32) < (mu_i H 1001079 (nI k).toNatClampNeg)
            refine mw_go mu_g142 (k := 2) (f1 := (55, [(2, .inl (mu_i H 1001079 (nI k).toNatClampNeg)), (1, .inl (nI k)), (0, .inr (.inr (some 80)))], [.inl (2 : Int32), .inl (mu_i H 1001079 (nI k).toNatClampNeg)], H)) (C := []) rfl trivial ?_
            refine mw_if (P := (mu_i H 1001079 (nI k).toNatClampNeg) = (2 : Int32)) (a := 68) (b := 58) (fun _ => rfl) trivial (fun h23 => ?_) (fun h23 => ?_)
            · -- 68: (mu_i H 1001079 (nI k).toNatClampNeg) = (2 : Int32)
              refine mw_go mu_g142 (k := 4) (f1 := (72, [(3, .inl (0 : Int32)), (2, .inl (mu_i H 1001079 (nI k).toNatClampNeg)), (1, .inl (nI k)), (0, .inr (.inr (some 80)))], [.inl (0 : Int32), .inr (.inr (some 80))], H)) (C := []) rfl trivial ?_
              refine mw_if (P := (0 : Int32) = 0) (a := 79) (b := 75) (fun _ => rfl) trivial (fun h24 => ?_) (fun h24 => absurd (by decide) h24)
              refine mw_go mu_g142 (k := 3) (f1 := (82, [(3, .inl (0 : Int32)), (2, .inl (mu_i H 1001079 (nI k).toNatClampNeg)), (1, .inl (nI k)), (0, .inr (.inr (some 80)))], [.inl ((mu_i H 1001079 (nI k).toNatClampNeg) + (1 : Int32)), .inr (.inr (some 80))], H)) (C := []) rfl trivial ?_
              refine mw_cI (fun _ => rfl) (show mu_is H (some 80) 7 from h.1.is rfl) (pb_unwind (d := (d + 2)) (B := B) (f := f) h hBB (by omega) ((mu_i H 1001079 (nI k).toNatClampNeg) + (1 : Int32)) hy (lv_arg hot hkk).2) (fun x25 H25 q25 => ?_)
              obtain ⟨hp25, qt25, qi25, qb25, qs25, hy25, ql25⟩ := q25
              have ht25 := (pt.refl m B H).trans qt25
              have hc25 : ps_mp (mu_i H 80 6) = 2 := by rw [show mu_i H 80 6 = (8 : Int32) from hm0]; rfl
              refine mw_go mu_g142 (k := 3) (f1 := (90, [(4, .inl x25), (3, .inl (0 : Int32)), (2, .inl (mu_i H 1001079 (nI k).toNatClampNeg)), (1, .inl (nI k)), (0, .inr (.inr (some 80)))], [.inl (6 : Int32), .inl (mu_i H 1001079 (nI k).toNatClampNeg)], H25)) (C := []) rfl trivial ?_
              refine mw_if (P := (mu_i H 1001079 (nI k).toNatClampNeg) = (6 : Int32)) (a := 93) (b := 108) (fun _ => rfl) trivial (fun h26 => ?_) (fun h26 => ?_)
              · -- 93: (mu_i H 1001079 (nI k).toNatClampNeg) = (6 : Int32)
                refine mw_ot (fun hot => ?_)
                have hot : mu_ot H25 := hot
                refine mw_go mu_g142 (k := 2) (f1 := (97, [(4, .inl x25), (3, .inl (0 : Int32)), (2, .inl (mu_i H 1001079 (nI k).toNatClampNeg)), (1, .inl (nI k)), (0, .inr (.inr (some 80)))], [.inr (.inr (some 80)), .inr (.inr (some 1001079))], H25)) (C := []) rfl trivial ?_
                refine mw_cIe (fun _ => rfl) (show mu_is H25 (some 80) 7 from hp25.1.is rfl) (pa_top (d := (d + 6)) hp25) ?_
                refine mw_go mu_g142 (k := 2) (f1 := (103, [(4, .inl x25), (3, .inl (0 : Int32)), (2, .inl (mu_i H 1001079 (nI k).toNatClampNeg)), (1, .inl (nI k)), (0, .inr (.inr (some 80)))], [.inl (6 : Int32), .inl (mu_i H25 1001079 (ps_top H25).toNatClampNeg)], H25)) (C := [mu_isr H25 (some 1001079) 100, vp_in (ps_top H25) (mu_n H25 1001079)]) rfl (show (mu_isr H25 (some 1001079) 100) ∧ (vp_in (ps_top H25) (mu_n H25 1001079)) from ⟨(lv_ok hot).1, ps_lv hp25 hot⟩) ?_
                refine mw_if (P := (mu_i H25 1001079 (ps_top H25).toNatClampNeg) = (6 : Int32)) (a := 106) (b := 108) (fun _ => rfl) trivial (fun h28 => ?_) (fun h28 => ?_)
                · -- 106: (mu_i H25 1001079 (ps_top H25).toNatClampNeg) = (6 : Int32)
                  refine mw_go mu_g142 (k := 1) (f1 := (107, [(4, .inl x25), (3, .inl (0 : Int32)), (2, .inl (mu_i H 1001079 (nI k).toNatClampNeg)), (1, .inl (nI k)), (0, .inr (.inr (some 80)))], [.inl (0 : Int32)], H25)) (C := []) rfl trivial ?_
                  exact mw_of (fun _ => mu_ret rfl (Or.inl rfl) ⟨_, H25, rfl, Or.inl ⟨rfl, hp25, ht25, by omega⟩⟩)
                · -- 108: not (mu_i H25 1001079 (ps_top H25).toNatClampNeg) = (6 : Int32)
                  refine mw_go mu_g142 (k := 1) (f1 := (109, [(4, .inl x25), (3, .inl (0 : Int32)), (2, .inl (mu_i H 1001079 (nI k).toNatClampNeg)), (1, .inl (nI k)), (0, .inr (.inr (some 80)))], [.inr (.inr (some 80))], H25)) (C := []) rfl trivial ?_
                  refine mw_cV (fun _ => rfl) (show mu_is H25 (some 80) 7 from hp25.1.is rfl) (pb_adv (d := (d + 6)) (B := B) hp25) (fun H29 q29 => ?_)
                  obtain ⟨⟨hp29, qt29, qk29, qb29, qc29⟩, qa29⟩ := q29
                  have ht29 := ht25.trans qt29
                  have qs29 : gi_sz H29 89 = gi_sz H25 89 := qk29.2
                  have ha29 : ab m H29 = (ab m H25) := qa29
                  have qd29 := qc29 (show mu_i H25 80 4 < 114 from (by rw [(qi25 4 (by decide))]; exact (show (mu_i H 80 4) < 114 from qw1)))
                  refine mw_go mu_g142 (k := 2) (f1 := (115, [(4, .inl x25), (3, .inl (0 : Int32)), (2, .inl (mu_i H 1001079 (nI k).toNatClampNeg)), (1, .inl (nI k)), (0, .inr (.inr (some 80)))], [.inl (30 : Int32), .inl (nI k)], H29)) (C := []) rfl trivial ?_
                  refine mw_if (P := (nI k) = (30 : Int32)) (a := 118) (b := 137) (fun _ => rfl) trivial (fun h30 => absurd h30 h5) (fun _ => ?_)
                  refine mw_go mu_g142 (k := 4) (f1 := (142, [(4, .inl x25), (3, .inl (0 : Int32)), (2, .inl (mu_i H 1001079 (nI k).toNatClampNeg)), (1, .inl (nI k)), (0, .inr (.inr (some 80)))], [.inl (mu_i H 1001079 (nI k).toNatClampNeg), .inl x25, .inl (nI k), .inr (.inr (some 80))], H29)) (C := []) rfl trivial ?_
                  refine mw_if (P := x25 = (mu_i H 1001079 (nI k).toNatClampNeg)) (a := 145) (b := 149) (fun _ => rfl) trivial (fun h31 => ?_) (fun h31 => ?_)
                  · -- 145: x25 = (mu_i H 1001079 (nI k).toNatClampNeg)
                    refine mw_go mu_g142 (k := 2) (f1 := (150, [(4, .inl x25), (3, .inl (0 : Int32)), (2, .inl (mu_i H 1001079 (nI k).toNatClampNeg)), (1, .inl (nI k)), (0, .inr (.inr (some 80)))], [.inl (1 : Int32), .inl (nI k), .inr (.inr (some 80))], H29)) (C := []) rfl trivial ?_
                    refine mw_cV (fun _ => rfl) (show mu_is H29 (some 80) 7 from hp29.1.is rfl) (pb_push (d := (d + 4)) (B := B) hp29 hBB (by omega) (nI k) (1 : Int32) ⟨k, by omega, rfl⟩) (fun H32 q32 => ?_)
                    obtain ⟨hp32, qt32, qi32, qs32, qb32, qa32⟩ := q32
                    have ht32 := ht29.trans qt32
                    have ha32 : ab m H32 = (tp 11 (ab m H25) (nI k) (1 : Int32) 0 0) := qa32.trans (by rw [ha29])
                    refine mw_go mu_g142 (k := 3) (f1 := (156, [(4, .inl x25), (3, .inl (0 : Int32)), (2, .inl (mu_i H 1001079 (nI k).toNatClampNeg)), (1, .inl (nI k)), (0, .inr (.inr (some 80)))], [.inl (4 : Int32), .inl (mu_i H 1001079 (nI k).toNatClampNeg), .inr (.inr (some 80))], H32)) (C := []) rfl trivial ?_
                    refine mw_if (P := (4 : Int32) < (mu_i H 1001079 (nI k).toNatClampNeg)) (a := 163) (b := 159) (fun _ => rfl) trivial (fun _ => ?_) (fun h33 => absurd h22 h33)
                    refine mw_go mu_g142 (k := 3) (f1 := (169, [(4, .inl x25), (3, .inl (0 : Int32)), (2, .inl (mu_i H 1001079 (nI k).toNatClampNeg)), (1, .inl (nI k)), (0, .inr (.inr (some 80)))], [.inl (1 : Int32)], (mu_si H32 80 6 (6 : Int32)))) (C := [mu_is H32 (some 80) 7]) rfl (show mu_is H32 (some 80) 7 from hp32.1.is rfl) ?_
                    have hp34 : ps m (mu_si H32 80 6 (6 : Int32)) := hp32.si (by decide) (by decide)
                    have ht34 : pt m B H (mu_si H32 80 6 (6 : Int32)) := ht32.trans (pt.si hp32)
                    have ha34 : ab m (mu_si H32 80 6 (6 : Int32)) = (tp 11 (ab m H25) (nI k) (1 : Int32) 0 0) := (ab_si hp32.1 hp32.2.1).trans ha32
                    have hb34 : ps_pot m (mu_si H32 80 6 (6 : Int32)) + ps_mp (mu_i H32 80 6) = ps_pot m H32 + 0 := ps_pot6 hp32 (6 : Int32)
                    have hc34 : ps_mp (mu_i H32 80 6) = 2 := by rw [show mu_i H32 80 6 = (8 : Int32) from ((qi32 6).trans ((qk29.1 6 (by decide)).trans ((qi25 6 (by decide)).trans hm0)))]; rfl
                    have hs34 : gi_sz (mu_si H32 80 6 (6 : Int32)) 89 = gi_sz H32 89 := rfl
                    have hi35_3 : mu_i (mu_si H32 80 6 (6 : Int32)) 80 3 = (mu_i H29 80 3) := (qi32 3)
                    have hi35_4 : mu_i (mu_si H32 80 6 (6 : Int32)) 80 4 = (mu_i H29 80 4) := (qi32 4)
                    have hi35_5 : mu_i (mu_si H32 80 6 (6 : Int32)) 80 5 = (mu_i H29 80 5) := (qi32 5)
                    have hi35_7 : mu_i (mu_si H32 80 6 (6 : Int32)) 80 7 = (mu_i H 80 7) := ((qi32 7).trans ((qk29.1 7 (by decide)).trans (qi25 7 (by decide))))
                    have hi35_8 : mu_i (mu_si H32 80 6 (6 : Int32)) 80 8 = (mu_i H25 80 8) := ((qi32 8).trans (qk29.1 8 (by decide)))
                    have hi35_9 : mu_i (mu_si H32 80 6 (6 : Int32)) 80 9 = (mu_i H 80 9) := ((qi32 9).trans ((qk29.1 9 (by decide)).trans (qi25 9 (by decide))))
                    have hi35_10 : mu_i (mu_si H32 80 6 (6 : Int32)) 80 10 = (mu_i H 80 10) := ((qi32 10).trans ((qk29.1 10 (by decide)).trans (qi25 10 (by decide))))
                    have hi35_11 : mu_i (mu_si H32 80 6 (6 : Int32)) 80 11 = (mu_i H 80 11) := ((qi32 11).trans ((qk29.1 11 (by decide)).trans (qi25 11 (by decide))))
                    exact mw_of (fun _ => mu_ret rfl (Or.inr rfl) ⟨_, (mu_si H32 80 6 (6 : Int32)), rfl, Or.inr ⟨rfl, hp34, ht34, by omega, (PC_c (show mu_i (mu_si H32 80 6 (6 : Int32)) 80 6 = 6 from rfl) (show mu_i (mu_si H32 80 6 (6 : Int32)) 80 9 = nI f from (hi35_9.trans hfr)) ha34 (hy25.pbin (q := k) hkk (Or.inr rfl)) (Or.inl ⟨Or.inr rfl, rfl, rfl⟩))⟩⟩)
                  · -- 149: not x25 = (mu_i H 1001079 (nI k).toNatClampNeg)
                    refine mw_go mu_g142 (k := 1) (f1 := (150, [(4, .inl x25), (3, .inl (0 : Int32)), (2, .inl (mu_i H 1001079 (nI k).toNatClampNeg)), (1, .inl (nI k)), (0, .inr (.inr (some 80)))], [.inl (0 : Int32), .inl (nI k), .inr (.inr (some 80))], H29)) (C := []) rfl trivial ?_
                    refine mw_cV (fun _ => rfl) (show mu_is H29 (some 80) 7 from hp29.1.is rfl) (pb_push (d := (d + 4)) (B := B) hp29 hBB (by omega) (nI k) (0 : Int32) ⟨k, by omega, rfl⟩) (fun H36 q36 => ?_)
                    obtain ⟨hp36, qt36, qi36, qs36, qb36, qa36⟩ := q36
                    have ht36 := ht29.trans qt36
                    have ha36 : ab m H36 = (tp 11 (ab m H25) (nI k) (0 : Int32) 0 0) := qa36.trans (by rw [ha29])
                    refine mw_go mu_g142 (k := 3) (f1 := (156, [(4, .inl x25), (3, .inl (0 : Int32)), (2, .inl (mu_i H 1001079 (nI k).toNatClampNeg)), (1, .inl (nI k)), (0, .inr (.inr (some 80)))], [.inl (4 : Int32), .inl (mu_i H 1001079 (nI k).toNatClampNeg), .inr (.inr (some 80))], H36)) (C := []) rfl trivial ?_
                    refine mw_if (P := (4 : Int32) < (mu_i H 1001079 (nI k).toNatClampNeg)) (a := 163) (b := 159) (fun _ => rfl) trivial (fun _ => ?_) (fun h37 => absurd h22 h37)
                    refine mw_go mu_g142 (k := 3) (f1 := (169, [(4, .inl x25), (3, .inl (0 : Int32)), (2, .inl (mu_i H 1001079 (nI k).toNatClampNeg)), (1, .inl (nI k)), (0, .inr (.inr (some 80)))], [.inl (1 : Int32)], (mu_si H36 80 6 (6 : Int32)))) (C := [mu_is H36 (some 80) 7]) rfl (show mu_is H36 (some 80) 7 from hp36.1.is rfl) ?_
                    have hp38 : ps m (mu_si H36 80 6 (6 : Int32)) := hp36.si (by decide) (by decide)
                    have ht38 : pt m B H (mu_si H36 80 6 (6 : Int32)) := ht36.trans (pt.si hp36)
                    have ha38 : ab m (mu_si H36 80 6 (6 : Int32)) = (tp 11 (ab m H25) (nI k) (0 : Int32) 0 0) := (ab_si hp36.1 hp36.2.1).trans ha36
                    have hb38 : ps_pot m (mu_si H36 80 6 (6 : Int32)) + ps_mp (mu_i H36 80 6) = ps_pot m H36 + 0 := ps_pot6 hp36 (6 : Int32)
                    have hc38 : ps_mp (mu_i H36 80 6) = 2 := by rw [show mu_i H36 80 6 = (8 : Int32) from ((qi36 6).trans ((qk29.1 6 (by decide)).trans ((qi25 6 (by decide)).trans hm0)))]; rfl
                    have hs38 : gi_sz (mu_si H36 80 6 (6 : Int32)) 89 = gi_sz H36 89 := rfl
                    have hi39_3 : mu_i (mu_si H36 80 6 (6 : Int32)) 80 3 = (mu_i H29 80 3) := (qi36 3)
                    have hi39_4 : mu_i (mu_si H36 80 6 (6 : Int32)) 80 4 = (mu_i H29 80 4) := (qi36 4)
                    have hi39_5 : mu_i (mu_si H36 80 6 (6 : Int32)) 80 5 = (mu_i H29 80 5) := (qi36 5)
                    have hi39_7 : mu_i (mu_si H36 80 6 (6 : Int32)) 80 7 = (mu_i H 80 7) := ((qi36 7).trans ((qk29.1 7 (by decide)).trans (qi25 7 (by decide))))
                    have hi39_8 : mu_i (mu_si H36 80 6 (6 : Int32)) 80 8 = (mu_i H25 80 8) := ((qi36 8).trans (qk29.1 8 (by decide)))
                    have hi39_9 : mu_i (mu_si H36 80 6 (6 : Int32)) 80 9 = (mu_i H 80 9) := ((qi36 9).trans ((qk29.1 9 (by decide)).trans (qi25 9 (by decide))))
                    have hi39_10 : mu_i (mu_si H36 80 6 (6 : Int32)) 80 10 = (mu_i H 80 10) := ((qi36 10).trans ((qk29.1 10 (by decide)).trans (qi25 10 (by decide))))
                    have hi39_11 : mu_i (mu_si H36 80 6 (6 : Int32)) 80 11 = (mu_i H 80 11) := ((qi36 11).trans ((qk29.1 11 (by decide)).trans (qi25 11 (by decide))))
                    exact mw_of (fun _ => mu_ret rfl (Or.inr rfl) ⟨_, (mu_si H36 80 6 (6 : Int32)), rfl, Or.inr ⟨rfl, hp38, ht38, by omega, (PC_c (show mu_i (mu_si H36 80 6 (6 : Int32)) 80 6 = 6 from rfl) (show mu_i (mu_si H36 80 6 (6 : Int32)) 80 9 = nI f from (hi39_9.trans hfr)) ha38 (hy25.pbin (q := k) hkk (Or.inl rfl)) (Or.inl ⟨Or.inr rfl, rfl, rfl⟩))⟩⟩)
              · -- 108: not (mu_i H 1001079 (nI k).toNatClampNeg) = (6 : Int32)
                refine mw_go mu_g142 (k := 1) (f1 := (109, [(4, .inl x25), (3, .inl (0 : Int32)), (2, .inl (mu_i H 1001079 (nI k).toNatClampNeg)), (1, .inl (nI k)), (0, .inr (.inr (some 80)))], [.inr (.inr (some 80))], H25)) (C := []) rfl trivial ?_
                refine mw_cV (fun _ => rfl) (show mu_is H25 (some 80) 7 from hp25.1.is rfl) (pb_adv (d := (d + 6)) (B := B) hp25) (fun H40 q40 => ?_)
                obtain ⟨⟨hp40, qt40, qk40, qb40, qc40⟩, qa40⟩ := q40
                have ht40 := ht25.trans qt40
                have qs40 : gi_sz H40 89 = gi_sz H25 89 := qk40.2
                have ha40 : ab m H40 = (ab m H25) := qa40
                have qd40 := qc40 (show mu_i H25 80 4 < 114 from (by rw [(qi25 4 (by decide))]; exact (show (mu_i H 80 4) < 114 from qw1)))
                refine mw_go mu_g142 (k := 2) (f1 := (115, [(4, .inl x25), (3, .inl (0 : Int32)), (2, .inl (mu_i H 1001079 (nI k).toNatClampNeg)), (1, .inl (nI k)), (0, .inr (.inr (some 80)))], [.inl (30 : Int32), .inl (nI k)], H40)) (C := []) rfl trivial ?_
                refine mw_if (P := (nI k) = (30 : Int32)) (a := 118) (b := 137) (fun _ => rfl) trivial (fun h41 => absurd h41 h5) (fun _ => ?_)
                refine mw_go mu_g142 (k := 4) (f1 := (142, [(4, .inl x25), (3, .inl (0 : Int32)), (2, .inl (mu_i H 1001079 (nI k).toNatClampNeg)), (1, .inl (nI k)), (0, .inr (.inr (some 80)))], [.inl (mu_i H 1001079 (nI k).toNatClampNeg), .inl x25, .inl (nI k), .inr (.inr (some 80))], H40)) (C := []) rfl trivial ?_
                refine mw_if (P := x25 = (mu_i H 1001079 (nI k).toNatClampNeg)) (a := 145) (b := 149) (fun _ => rfl) trivial (fun h42 => ?_) (fun h42 => ?_)
                · -- 145: x25 = (mu_i H 1001079 (nI k).toNatClampNeg)
                  refine mw_go mu_g142 (k := 2) (f1 := (150, [(4, .inl x25), (3, .inl (0 : Int32)), (2, .inl (mu_i H 1001079 (nI k).toNatClampNeg)), (1, .inl (nI k)), (0, .inr (.inr (some 80)))], [.inl (1 : Int32), .inl (nI k), .inr (.inr (some 80))], H40)) (C := []) rfl trivial ?_
                  refine mw_cV (fun _ => rfl) (show mu_is H40 (some 80) 7 from hp40.1.is rfl) (pb_push (d := (d + 4)) (B := B) hp40 hBB (by omega) (nI k) (1 : Int32) ⟨k, by omega, rfl⟩) (fun H43 q43 => ?_)
                  obtain ⟨hp43, qt43, qi43, qs43, qb43, qa43⟩ := q43
                  have ht43 := ht40.trans qt43
                  have ha43 : ab m H43 = (tp 11 (ab m H25) (nI k) (1 : Int32) 0 0) := qa43.trans (by rw [ha40])
                  refine mw_go mu_g142 (k := 3) (f1 := (156, [(4, .inl x25), (3, .inl (0 : Int32)), (2, .inl (mu_i H 1001079 (nI k).toNatClampNeg)), (1, .inl (nI k)), (0, .inr (.inr (some 80)))], [.inl (4 : Int32), .inl (mu_i H 1001079 (nI k).toNatClampNeg), .inr (.inr (some 80))], H43)) (C := []) rfl trivial ?_
                  refine mw_if (P := (4 : Int32) < (mu_i H 1001079 (nI k).toNatClampNeg)) (a := 163) (b := 159) (fun _ => rfl) trivial (fun _ => ?_) (fun h44 => absurd h22 h44)
                  refine mw_go mu_g142 (k := 3) (f1 := (169, [(4, .inl x25), (3, .inl (0 : Int32)), (2, .inl (mu_i H 1001079 (nI k).toNatClampNeg)), (1, .inl (nI k)), (0, .inr (.inr (some 80)))], [.inl (1 : Int32)], (mu_si H43 80 6 (6 : Int32)))) (C := [mu_is H43 (some 80) 7]) rfl (show mu_is H43 (some 80) 7 from hp43.1.is rfl) ?_
                  have hp45 : ps m (mu_si H43 80 6 (6 : Int32)) := hp43.si (by decide) (by decide)
                  have ht45 : pt m B H (mu_si H43 80 6 (6 : Int32)) := ht43.trans (pt.si hp43)
                  have ha45 : ab m (mu_si H43 80 6 (6 : Int32)) = (tp 11 (ab m H25) (nI k) (1 : Int32) 0 0) := (ab_si hp43.1 hp43.2.1).trans ha43
                  have hb45 : ps_pot m (mu_si H43 80 6 (6 : Int32)) + ps_mp (mu_i H43 80 6) = ps_pot m H43 + 0 := ps_pot6 hp43 (6 : Int32)
                  have hc45 : ps_mp (mu_i H43 80 6) = 2 := by rw [show mu_i H43 80 6 = (8 : Int32) from ((qi43 6).trans ((qk40.1 6 (by decide)).trans ((qi25 6 (by decide)).trans hm0)))]; rfl
                  have hs45 : gi_sz (mu_si H43 80 6 (6 : Int32)) 89 = gi_sz H43 89 := rfl
                  have hi46_3 : mu_i (mu_si H43 80 6 (6 : Int32)) 80 3 = (mu_i H40 80 3) := (qi43 3)
                  have hi46_4 : mu_i (mu_si H43 80 6 (6 : Int32)) 80 4 = (mu_i H40 80 4) := (qi43 4)
                  have hi46_5 : mu_i (mu_si H43 80 6 (6 : Int32)) 80 5 = (mu_i H40 80 5) := (qi43 5)
                  have hi46_7 : mu_i (mu_si H43 80 6 (6 : Int32)) 80 7 = (mu_i H 80 7) := ((qi43 7).trans ((qk40.1 7 (by decide)).trans (qi25 7 (by decide))))
                  have hi46_8 : mu_i (mu_si H43 80 6 (6 : Int32)) 80 8 = (mu_i H25 80 8) := ((qi43 8).trans (qk40.1 8 (by decide)))
                  have hi46_9 : mu_i (mu_si H43 80 6 (6 : Int32)) 80 9 = (mu_i H 80 9) := ((qi43 9).trans ((qk40.1 9 (by decide)).trans (qi25 9 (by decide))))
                  have hi46_10 : mu_i (mu_si H43 80 6 (6 : Int32)) 80 10 = (mu_i H 80 10) := ((qi43 10).trans ((qk40.1 10 (by decide)).trans (qi25 10 (by decide))))
                  have hi46_11 : mu_i (mu_si H43 80 6 (6 : Int32)) 80 11 = (mu_i H 80 11) := ((qi43 11).trans ((qk40.1 11 (by decide)).trans (qi25 11 (by decide))))
                  exact mw_of (fun _ => mu_ret rfl (Or.inr rfl) ⟨_, (mu_si H43 80 6 (6 : Int32)), rfl, Or.inr ⟨rfl, hp45, ht45, by omega, (PC_c (show mu_i (mu_si H43 80 6 (6 : Int32)) 80 6 = 6 from rfl) (show mu_i (mu_si H43 80 6 (6 : Int32)) 80 9 = nI f from (hi46_9.trans hfr)) ha45 (hy25.pbin (q := k) hkk (Or.inr rfl)) (Or.inl ⟨Or.inr rfl, rfl, rfl⟩))⟩⟩)
                · -- 149: not x25 = (mu_i H 1001079 (nI k).toNatClampNeg)
                  refine mw_go mu_g142 (k := 1) (f1 := (150, [(4, .inl x25), (3, .inl (0 : Int32)), (2, .inl (mu_i H 1001079 (nI k).toNatClampNeg)), (1, .inl (nI k)), (0, .inr (.inr (some 80)))], [.inl (0 : Int32), .inl (nI k), .inr (.inr (some 80))], H40)) (C := []) rfl trivial ?_
                  refine mw_cV (fun _ => rfl) (show mu_is H40 (some 80) 7 from hp40.1.is rfl) (pb_push (d := (d + 4)) (B := B) hp40 hBB (by omega) (nI k) (0 : Int32) ⟨k, by omega, rfl⟩) (fun H47 q47 => ?_)
                  obtain ⟨hp47, qt47, qi47, qs47, qb47, qa47⟩ := q47
                  have ht47 := ht40.trans qt47
                  have ha47 : ab m H47 = (tp 11 (ab m H25) (nI k) (0 : Int32) 0 0) := qa47.trans (by rw [ha40])
                  refine mw_go mu_g142 (k := 3) (f1 := (156, [(4, .inl x25), (3, .inl (0 : Int32)), (2, .inl (mu_i H 1001079 (nI k).toNatClampNeg)), (1, .inl (nI k)), (0, .inr (.inr (some 80)))], [.inl (4 : Int32), .inl (mu_i H 1001079 (nI k).toNatClampNeg), .inr (.inr (some 80))], H47)) (C := []) rfl trivial ?_
                  refine mw_if (P := (4 : Int32) < (mu_i H 1001079 (nI k).toNatClampNeg)) (a := 163) (b := 159) (fun _ => rfl) trivial (fun _ => ?_) (fun h48 => absurd h22 h48)
                  refine mw_go mu_g142 (k := 3) (f1 := (169, [(4, .inl x25), (3, .inl (0 : Int32)), (2, .inl (mu_i H 1001079 (nI k).toNatClampNeg)), (1, .inl (nI k)), (0, .inr (.inr (some 80)))], [.inl (1 : Int32)], (mu_si H47 80 6 (6 : Int32)))) (C := [mu_is H47 (some 80) 7]) rfl (show mu_is H47 (some 80) 7 from hp47.1.is rfl) ?_
                  have hp49 : ps m (mu_si H47 80 6 (6 : Int32)) := hp47.si (by decide) (by decide)
                  have ht49 : pt m B H (mu_si H47 80 6 (6 : Int32)) := ht47.trans (pt.si hp47)
                  have ha49 : ab m (mu_si H47 80 6 (6 : Int32)) = (tp 11 (ab m H25) (nI k) (0 : Int32) 0 0) := (ab_si hp47.1 hp47.2.1).trans ha47
                  have hb49 : ps_pot m (mu_si H47 80 6 (6 : Int32)) + ps_mp (mu_i H47 80 6) = ps_pot m H47 + 0 := ps_pot6 hp47 (6 : Int32)
                  have hc49 : ps_mp (mu_i H47 80 6) = 2 := by rw [show mu_i H47 80 6 = (8 : Int32) from ((qi47 6).trans ((qk40.1 6 (by decide)).trans ((qi25 6 (by decide)).trans hm0)))]; rfl
                  have hs49 : gi_sz (mu_si H47 80 6 (6 : Int32)) 89 = gi_sz H47 89 := rfl
                  have hi50_3 : mu_i (mu_si H47 80 6 (6 : Int32)) 80 3 = (mu_i H40 80 3) := (qi47 3)
                  have hi50_4 : mu_i (mu_si H47 80 6 (6 : Int32)) 80 4 = (mu_i H40 80 4) := (qi47 4)
                  have hi50_5 : mu_i (mu_si H47 80 6 (6 : Int32)) 80 5 = (mu_i H40 80 5) := (qi47 5)
                  have hi50_7 : mu_i (mu_si H47 80 6 (6 : Int32)) 80 7 = (mu_i H 80 7) := ((qi47 7).trans ((qk40.1 7 (by decide)).trans (qi25 7 (by decide))))
                  have hi50_8 : mu_i (mu_si H47 80 6 (6 : Int32)) 80 8 = (mu_i H25 80 8) := ((qi47 8).trans (qk40.1 8 (by decide)))
                  have hi50_9 : mu_i (mu_si H47 80 6 (6 : Int32)) 80 9 = (mu_i H 80 9) := ((qi47 9).trans ((qk40.1 9 (by decide)).trans (qi25 9 (by decide))))
                  have hi50_10 : mu_i (mu_si H47 80 6 (6 : Int32)) 80 10 = (mu_i H 80 10) := ((qi47 10).trans ((qk40.1 10 (by decide)).trans (qi25 10 (by decide))))
                  have hi50_11 : mu_i (mu_si H47 80 6 (6 : Int32)) 80 11 = (mu_i H 80 11) := ((qi47 11).trans ((qk40.1 11 (by decide)).trans (qi25 11 (by decide))))
                  exact mw_of (fun _ => mu_ret rfl (Or.inr rfl) ⟨_, (mu_si H47 80 6 (6 : Int32)), rfl, Or.inr ⟨rfl, hp49, ht49, by omega, (PC_c (show mu_i (mu_si H47 80 6 (6 : Int32)) 80 6 = 6 from rfl) (show mu_i (mu_si H47 80 6 (6 : Int32)) 80 9 = nI f from (hi50_9.trans hfr)) ha49 (hy25.pbin (q := k) hkk (Or.inl rfl)) (Or.inl ⟨Or.inr rfl, rfl, rfl⟩))⟩⟩)
            · -- 58: not (mu_i H 1001079 (nI k).toNatClampNeg) = (2 : Int32)
              refine mw_go mu_g142 (k := 2) (f1 := (61, [(2, .inl (mu_i H 1001079 (nI k).toNatClampNeg)), (1, .inl (nI k)), (0, .inr (.inr (some 80)))], [.inl (6 : Int32), .inl (mu_i H 1001079 (nI k).toNatClampNeg)], H)) (C := []) rfl trivial ?_
              refine mw_if (P := (mu_i H 1001079 (nI k).toNatClampNeg) = (6 : Int32)) (a := 68) (b := 64) (fun _ => rfl) trivial (fun h51 => ?_) (fun h51 => ?_)
              · -- 68: (mu_i H 1001079 (nI k).toNatClampNeg) = (6 : Int32)
                refine mw_go mu_g142 (k := 4) (f1 := (72, [(3, .inl (0 : Int32)), (2, .inl (mu_i H 1001079 (nI k).toNatClampNeg)), (1, .inl (nI k)), (0, .inr (.inr (some 80)))], [.inl (0 : Int32), .inr (.inr (some 80))], H)) (C := []) rfl trivial ?_
                refine mw_if (P := (0 : Int32) = 0) (a := 79) (b := 75) (fun _ => rfl) trivial (fun h52 => ?_) (fun h52 => absurd (by decide) h52)
                refine mw_go mu_g142 (k := 3) (f1 := (82, [(3, .inl (0 : Int32)), (2, .inl (mu_i H 1001079 (nI k).toNatClampNeg)), (1, .inl (nI k)), (0, .inr (.inr (some 80)))], [.inl ((mu_i H 1001079 (nI k).toNatClampNeg) + (1 : Int32)), .inr (.inr (some 80))], H)) (C := []) rfl trivial ?_
                refine mw_cI (fun _ => rfl) (show mu_is H (some 80) 7 from h.1.is rfl) (pb_unwind (d := (d + 2)) (B := B) (f := f) h hBB (by omega) ((mu_i H 1001079 (nI k).toNatClampNeg) + (1 : Int32)) hy (lv_arg hot hkk).2) (fun x53 H53 q53 => ?_)
                obtain ⟨hp53, qt53, qi53, qb53, qs53, hy53, ql53⟩ := q53
                have ht53 := (pt.refl m B H).trans qt53
                have hc53 : ps_mp (mu_i H 80 6) = 2 := by rw [show mu_i H 80 6 = (8 : Int32) from hm0]; rfl
                refine mw_go mu_g142 (k := 3) (f1 := (90, [(4, .inl x53), (3, .inl (0 : Int32)), (2, .inl (mu_i H 1001079 (nI k).toNatClampNeg)), (1, .inl (nI k)), (0, .inr (.inr (some 80)))], [.inl (6 : Int32), .inl (mu_i H 1001079 (nI k).toNatClampNeg)], H53)) (C := []) rfl trivial ?_
                refine mw_if (P := (mu_i H 1001079 (nI k).toNatClampNeg) = (6 : Int32)) (a := 93) (b := 108) (fun _ => rfl) trivial (fun _ => ?_) (fun h54 => absurd h51 h54)
                refine mw_ot (fun hot => ?_)
                have hot : mu_ot H53 := hot
                refine mw_go mu_g142 (k := 2) (f1 := (97, [(4, .inl x53), (3, .inl (0 : Int32)), (2, .inl (mu_i H 1001079 (nI k).toNatClampNeg)), (1, .inl (nI k)), (0, .inr (.inr (some 80)))], [.inr (.inr (some 80)), .inr (.inr (some 1001079))], H53)) (C := []) rfl trivial ?_
                refine mw_cIe (fun _ => rfl) (show mu_is H53 (some 80) 7 from hp53.1.is rfl) (pa_top (d := (d + 6)) hp53) ?_
                refine mw_go mu_g142 (k := 2) (f1 := (103, [(4, .inl x53), (3, .inl (0 : Int32)), (2, .inl (mu_i H 1001079 (nI k).toNatClampNeg)), (1, .inl (nI k)), (0, .inr (.inr (some 80)))], [.inl (6 : Int32), .inl (mu_i H53 1001079 (ps_top H53).toNatClampNeg)], H53)) (C := [mu_isr H53 (some 1001079) 100, vp_in (ps_top H53) (mu_n H53 1001079)]) rfl (show (mu_isr H53 (some 1001079) 100) ∧ (vp_in (ps_top H53) (mu_n H53 1001079)) from ⟨(lv_ok hot).1, ps_lv hp53 hot⟩) ?_
                refine mw_if (P := (mu_i H53 1001079 (ps_top H53).toNatClampNeg) = (6 : Int32)) (a := 106) (b := 108) (fun _ => rfl) trivial (fun h56 => ?_) (fun h56 => ?_)
                · -- 106: (mu_i H53 1001079 (ps_top H53).toNatClampNeg) = (6 : Int32)
                  refine mw_go mu_g142 (k := 1) (f1 := (107, [(4, .inl x53), (3, .inl (0 : Int32)), (2, .inl (mu_i H 1001079 (nI k).toNatClampNeg)), (1, .inl (nI k)), (0, .inr (.inr (some 80)))], [.inl (0 : Int32)], H53)) (C := []) rfl trivial ?_
                  exact mw_of (fun _ => mu_ret rfl (Or.inl rfl) ⟨_, H53, rfl, Or.inl ⟨rfl, hp53, ht53, by omega⟩⟩)
                · -- 108: not (mu_i H53 1001079 (ps_top H53).toNatClampNeg) = (6 : Int32)
                  refine mw_go mu_g142 (k := 1) (f1 := (109, [(4, .inl x53), (3, .inl (0 : Int32)), (2, .inl (mu_i H 1001079 (nI k).toNatClampNeg)), (1, .inl (nI k)), (0, .inr (.inr (some 80)))], [.inr (.inr (some 80))], H53)) (C := []) rfl trivial ?_
                  refine mw_cV (fun _ => rfl) (show mu_is H53 (some 80) 7 from hp53.1.is rfl) (pb_adv (d := (d + 6)) (B := B) hp53) (fun H57 q57 => ?_)
                  obtain ⟨⟨hp57, qt57, qk57, qb57, qc57⟩, qa57⟩ := q57
                  have ht57 := ht53.trans qt57
                  have qs57 : gi_sz H57 89 = gi_sz H53 89 := qk57.2
                  have ha57 : ab m H57 = (ab m H53) := qa57
                  have qd57 := qc57 (show mu_i H53 80 4 < 114 from (by rw [(qi53 4 (by decide))]; exact (show (mu_i H 80 4) < 114 from qw1)))
                  refine mw_go mu_g142 (k := 2) (f1 := (115, [(4, .inl x53), (3, .inl (0 : Int32)), (2, .inl (mu_i H 1001079 (nI k).toNatClampNeg)), (1, .inl (nI k)), (0, .inr (.inr (some 80)))], [.inl (30 : Int32), .inl (nI k)], H57)) (C := []) rfl trivial ?_
                  refine mw_if (P := (nI k) = (30 : Int32)) (a := 118) (b := 137) (fun _ => rfl) trivial (fun h58 => absurd h58 h5) (fun _ => ?_)
                  refine mw_go mu_g142 (k := 4) (f1 := (142, [(4, .inl x53), (3, .inl (0 : Int32)), (2, .inl (mu_i H 1001079 (nI k).toNatClampNeg)), (1, .inl (nI k)), (0, .inr (.inr (some 80)))], [.inl (mu_i H 1001079 (nI k).toNatClampNeg), .inl x53, .inl (nI k), .inr (.inr (some 80))], H57)) (C := []) rfl trivial ?_
                  refine mw_if (P := x53 = (mu_i H 1001079 (nI k).toNatClampNeg)) (a := 145) (b := 149) (fun _ => rfl) trivial (fun h59 => ?_) (fun h59 => ?_)
                  · -- 145: x53 = (mu_i H 1001079 (nI k).toNatClampNeg)
                    refine mw_go mu_g142 (k := 2) (f1 := (150, [(4, .inl x53), (3, .inl (0 : Int32)), (2, .inl (mu_i H 1001079 (nI k).toNatClampNeg)), (1, .inl (nI k)), (0, .inr (.inr (some 80)))], [.inl (1 : Int32), .inl (nI k), .inr (.inr (some 80))], H57)) (C := []) rfl trivial ?_
                    refine mw_cV (fun _ => rfl) (show mu_is H57 (some 80) 7 from hp57.1.is rfl) (pb_push (d := (d + 4)) (B := B) hp57 hBB (by omega) (nI k) (1 : Int32) ⟨k, by omega, rfl⟩) (fun H60 q60 => ?_)
                    obtain ⟨hp60, qt60, qi60, qs60, qb60, qa60⟩ := q60
                    have ht60 := ht57.trans qt60
                    have ha60 : ab m H60 = (tp 11 (ab m H53) (nI k) (1 : Int32) 0 0) := qa60.trans (by rw [ha57])
                    refine mw_go mu_g142 (k := 3) (f1 := (156, [(4, .inl x53), (3, .inl (0 : Int32)), (2, .inl (mu_i H 1001079 (nI k).toNatClampNeg)), (1, .inl (nI k)), (0, .inr (.inr (some 80)))], [.inl (4 : Int32), .inl (mu_i H 1001079 (nI k).toNatClampNeg), .inr (.inr (some 80))], H60)) (C := []) rfl trivial ?_
                    refine mw_if (P := (4 : Int32) < (mu_i H 1001079 (nI k).toNatClampNeg)) (a := 163) (b := 159) (fun _ => rfl) trivial (fun _ => ?_) (fun h61 => absurd h22 h61)
                    refine mw_go mu_g142 (k := 3) (f1 := (169, [(4, .inl x53), (3, .inl (0 : Int32)), (2, .inl (mu_i H 1001079 (nI k).toNatClampNeg)), (1, .inl (nI k)), (0, .inr (.inr (some 80)))], [.inl (1 : Int32)], (mu_si H60 80 6 (6 : Int32)))) (C := [mu_is H60 (some 80) 7]) rfl (show mu_is H60 (some 80) 7 from hp60.1.is rfl) ?_
                    have hp62 : ps m (mu_si H60 80 6 (6 : Int32)) := hp60.si (by decide) (by decide)
                    have ht62 : pt m B H (mu_si H60 80 6 (6 : Int32)) := ht60.trans (pt.si hp60)
                    have ha62 : ab m (mu_si H60 80 6 (6 : Int32)) = (tp 11 (ab m H53) (nI k) (1 : Int32) 0 0) := (ab_si hp60.1 hp60.2.1).trans ha60
                    have hb62 : ps_pot m (mu_si H60 80 6 (6 : Int32)) + ps_mp (mu_i H60 80 6) = ps_pot m H60 + 0 := ps_pot6 hp60 (6 : Int32)
                    have hc62 : ps_mp (mu_i H60 80 6) = 2 := by rw [show mu_i H60 80 6 = (8 : Int32) from ((qi60 6).trans ((qk57.1 6 (by decide)).trans ((qi53 6 (by decide)).trans hm0)))]; rfl
                    have hs62 : gi_sz (mu_si H60 80 6 (6 : Int32)) 89 = gi_sz H60 89 := rfl
                    have hi63_3 : mu_i (mu_si H60 80 6 (6 : Int32)) 80 3 = (mu_i H57 80 3) := (qi60 3)
                    have hi63_4 : mu_i (mu_si H60 80 6 (6 : Int32)) 80 4 = (mu_i H57 80 4) := (qi60 4)
                    have hi63_5 : mu_i (mu_si H60 80 6 (6 : Int32)) 80 5 = (mu_i H57 80 5) := (qi60 5)
                    have hi63_7 : mu_i (mu_si H60 80 6 (6 : Int32)) 80 7 = (mu_i H 80 7) := ((qi60 7).trans ((qk57.1 7 (by decide)).trans (qi53 7 (by decide))))
                    have hi63_8 : mu_i (mu_si H60 80 6 (6 : Int32)) 80 8 = (mu_i H53 80 8) := ((qi60 8).trans (qk57.1 8 (by decide)))
                    have hi63_9 : mu_i (mu_si H60 80 6 (6 : Int32)) 80 9 = (mu_i H 80 9) := ((qi60 9).trans ((qk57.1 9 (by decide)).trans (qi53 9 (by decide))))
                    have hi63_10 : mu_i (mu_si H60 80 6 (6 : Int32)) 80 10 = (mu_i H 80 10) := ((qi60 10).trans ((qk57.1 10 (by decide)).trans (qi53 10 (by decide))))
                    have hi63_11 : mu_i (mu_si H60 80 6 (6 : Int32)) 80 11 = (mu_i H 80 11) := ((qi60 11).trans ((qk57.1 11 (by decide)).trans (qi53 11 (by decide))))
                    exact mw_of (fun _ => mu_ret rfl (Or.inr rfl) ⟨_, (mu_si H60 80 6 (6 : Int32)), rfl, Or.inr ⟨rfl, hp62, ht62, by omega, (PC_c (show mu_i (mu_si H60 80 6 (6 : Int32)) 80 6 = 6 from rfl) (show mu_i (mu_si H60 80 6 (6 : Int32)) 80 9 = nI f from (hi63_9.trans hfr)) ha62 (hy53.pbin (q := k) hkk (Or.inr rfl)) (Or.inl ⟨Or.inr rfl, rfl, rfl⟩))⟩⟩)
                  · -- 149: not x53 = (mu_i H 1001079 (nI k).toNatClampNeg)
                    refine mw_go mu_g142 (k := 1) (f1 := (150, [(4, .inl x53), (3, .inl (0 : Int32)), (2, .inl (mu_i H 1001079 (nI k).toNatClampNeg)), (1, .inl (nI k)), (0, .inr (.inr (some 80)))], [.inl (0 : Int32), .inl (nI k), .inr (.inr (some 80))], H57)) (C := []) rfl trivial ?_
                    refine mw_cV (fun _ => rfl) (show mu_is H57 (some 80) 7 from hp57.1.is rfl) (pb_push (d := (d + 4)) (B := B) hp57 hBB (by omega) (nI k) (0 : Int32) ⟨k, by omega, rfl⟩) (fun H64 q64 => ?_)
                    obtain ⟨hp64, qt64, qi64, qs64, qb64, qa64⟩ := q64
                    have ht64 := ht57.trans qt64
                    have ha64 : ab m H64 = (tp 11 (ab m H53) (nI k) (0 : Int32) 0 0) := qa64.trans (by rw [ha57])
                    refine mw_go mu_g142 (k := 3) (f1 := (156, [(4, .inl x53), (3, .inl (0 : Int32)), (2, .inl (mu_i H 1001079 (nI k).toNatClampNeg)), (1, .inl (nI k)), (0, .inr (.inr (some 80)))], [.inl (4 : Int32), .inl (mu_i H 1001079 (nI k).toNatClampNeg), .inr (.inr (some 80))], H64)) (C := []) rfl trivial ?_
                    refine mw_if (P := (4 : Int32) < (mu_i H 1001079 (nI k).toNatClampNeg)) (a := 163) (b := 159) (fun _ => rfl) trivial (fun _ => ?_) (fun h65 => absurd h22 h65)
                    refine mw_go mu_g142 (k := 3) (f1 := (169, [(4, .inl x53), (3, .inl (0 : Int32)), (2, .inl (mu_i H 1001079 (nI k).toNatClampNeg)), (1, .inl (nI k)), (0, .inr (.inr (some 80)))], [.inl (1 : Int32)], (mu_si H64 80 6 (6 : Int32)))) (C := [mu_is H64 (some 80) 7]) rfl (show mu_is H64 (some 80) 7 from hp64.1.is rfl) ?_
                    have hp66 : ps m (mu_si H64 80 6 (6 : Int32)) := hp64.si (by decide) (by decide)
                    have ht66 : pt m B H (mu_si H64 80 6 (6 : Int32)) := ht64.trans (pt.si hp64)
                    have ha66 : ab m (mu_si H64 80 6 (6 : Int32)) = (tp 11 (ab m H53) (nI k) (0 : Int32) 0 0) := (ab_si hp64.1 hp64.2.1).trans ha64
                    have hb66 : ps_pot m (mu_si H64 80 6 (6 : Int32)) + ps_mp (mu_i H64 80 6) = ps_pot m H64 + 0 := ps_pot6 hp64 (6 : Int32)
                    have hc66 : ps_mp (mu_i H64 80 6) = 2 := by rw [show mu_i H64 80 6 = (8 : Int32) from ((qi64 6).trans ((qk57.1 6 (by decide)).trans ((qi53 6 (by decide)).trans hm0)))]; rfl
                    have hs66 : gi_sz (mu_si H64 80 6 (6 : Int32)) 89 = gi_sz H64 89 := rfl
                    have hi67_3 : mu_i (mu_si H64 80 6 (6 : Int32)) 80 3 = (mu_i H57 80 3) := (qi64 3)
                    have hi67_4 : mu_i (mu_si H64 80 6 (6 : Int32)) 80 4 = (mu_i H57 80 4) := (qi64 4)
                    have hi67_5 : mu_i (mu_si H64 80 6 (6 : Int32)) 80 5 = (mu_i H57 80 5) := (qi64 5)
                    have hi67_7 : mu_i (mu_si H64 80 6 (6 : Int32)) 80 7 = (mu_i H 80 7) := ((qi64 7).trans ((qk57.1 7 (by decide)).trans (qi53 7 (by decide))))
                    have hi67_8 : mu_i (mu_si H64 80 6 (6 : Int32)) 80 8 = (mu_i H53 80 8) := ((qi64 8).trans (qk57.1 8 (by decide)))
                    have hi67_9 : mu_i (mu_si H64 80 6 (6 : Int32)) 80 9 = (mu_i H 80 9) := ((qi64 9).trans ((qk57.1 9 (by decide)).trans (qi53 9 (by decide))))
                    have hi67_10 : mu_i (mu_si H64 80 6 (6 : Int32)) 80 10 = (mu_i H 80 10) := ((qi64 10).trans ((qk57.1 10 (by decide)).trans (qi53 10 (by decide))))
                    have hi67_11 : mu_i (mu_si H64 80 6 (6 : Int32)) 80 11 = (mu_i H 80 11) := ((qi64 11).trans ((qk57.1 11 (by decide)).trans (qi53 11 (by decide))))
                    exact mw_of (fun _ => mu_ret rfl (Or.inr rfl) ⟨_, (mu_si H64 80 6 (6 : Int32)), rfl, Or.inr ⟨rfl, hp66, ht66, by omega, (PC_c (show mu_i (mu_si H64 80 6 (6 : Int32)) 80 6 = 6 from rfl) (show mu_i (mu_si H64 80 6 (6 : Int32)) 80 9 = nI f from (hi67_9.trans hfr)) ha66 (hy53.pbin (q := k) hkk (Or.inl rfl)) (Or.inl ⟨Or.inr rfl, rfl, rfl⟩))⟩⟩)
              · -- 64: not (mu_i H 1001079 (nI k).toNatClampNeg) = (6 : Int32)
                refine mw_go mu_g142 (k := 5) (f1 := (72, [(3, .inl (1 : Int32)), (2, .inl (mu_i H 1001079 (nI k).toNatClampNeg)), (1, .inl (nI k)), (0, .inr (.inr (some 80)))], [.inl (1 : Int32), .inr (.inr (some 80))], H)) (C := []) rfl trivial ?_
                refine mw_if (P := (1 : Int32) = 0) (a := 79) (b := 75) (fun _ => rfl) trivial (fun h68 => absurd h68 (by decide)) (fun h68 => ?_)
                refine mw_go mu_g142 (k := 2) (f1 := (82, [(3, .inl (1 : Int32)), (2, .inl (mu_i H 1001079 (nI k).toNatClampNeg)), (1, .inl (nI k)), (0, .inr (.inr (some 80)))], [.inl (mu_i H 1001079 (nI k).toNatClampNeg), .inr (.inr (some 80))], H)) (C := []) rfl trivial ?_
                refine mw_cI (fun _ => rfl) (show mu_is H (some 80) 7 from h.1.is rfl) (pb_unwind (d := (d + 2)) (B := B) (f := f) h hBB (by omega) (mu_i H 1001079 (nI k).toNatClampNeg) hy (lv_arg hot hkk).1) (fun x69 H69 q69 => ?_)
                obtain ⟨hp69, qt69, qi69, qb69, qs69, hy69, ql69⟩ := q69
                have ht69 := (pt.refl m B H).trans qt69
                have hc69 : ps_mp (mu_i H 80 6) = 2 := by rw [show mu_i H 80 6 = (8 : Int32) from hm0]; rfl
                refine mw_go mu_g142 (k := 3) (f1 := (90, [(4, .inl x69), (3, .inl (1 : Int32)), (2, .inl (mu_i H 1001079 (nI k).toNatClampNeg)), (1, .inl (nI k)), (0, .inr (.inr (some 80)))], [.inl (6 : Int32), .inl (mu_i H 1001079 (nI k).toNatClampNeg)], H69)) (C := []) rfl trivial ?_
                refine mw_if (P := (mu_i H 1001079 (nI k).toNatClampNeg) = (6 : Int32)) (a := 93) (b := 108) (fun _ => rfl) trivial (fun h70 => absurd h70 h51) (fun _ => ?_)
                refine mw_go mu_g142 (k := 1) (f1 := (109, [(4, .inl x69), (3, .inl (1 : Int32)), (2, .inl (mu_i H 1001079 (nI k).toNatClampNeg)), (1, .inl (nI k)), (0, .inr (.inr (some 80)))], [.inr (.inr (some 80))], H69)) (C := []) rfl trivial ?_
                refine mw_cV (fun _ => rfl) (show mu_is H69 (some 80) 7 from hp69.1.is rfl) (pb_adv (d := (d + 6)) (B := B) hp69) (fun H71 q71 => ?_)
                obtain ⟨⟨hp71, qt71, qk71, qb71, qc71⟩, qa71⟩ := q71
                have ht71 := ht69.trans qt71
                have qs71 : gi_sz H71 89 = gi_sz H69 89 := qk71.2
                have ha71 : ab m H71 = (ab m H69) := qa71
                have qd71 := qc71 (show mu_i H69 80 4 < 114 from (by rw [(qi69 4 (by decide))]; exact (show (mu_i H 80 4) < 114 from qw1)))
                refine mw_go mu_g142 (k := 2) (f1 := (115, [(4, .inl x69), (3, .inl (1 : Int32)), (2, .inl (mu_i H 1001079 (nI k).toNatClampNeg)), (1, .inl (nI k)), (0, .inr (.inr (some 80)))], [.inl (30 : Int32), .inl (nI k)], H71)) (C := []) rfl trivial ?_
                refine mw_if (P := (nI k) = (30 : Int32)) (a := 118) (b := 137) (fun _ => rfl) trivial (fun h72 => absurd h72 h5) (fun _ => ?_)
                refine mw_go mu_g142 (k := 4) (f1 := (142, [(4, .inl x69), (3, .inl (1 : Int32)), (2, .inl (mu_i H 1001079 (nI k).toNatClampNeg)), (1, .inl (nI k)), (0, .inr (.inr (some 80)))], [.inl (mu_i H 1001079 (nI k).toNatClampNeg), .inl x69, .inl (nI k), .inr (.inr (some 80))], H71)) (C := []) rfl trivial ?_
                refine mw_if (P := x69 = (mu_i H 1001079 (nI k).toNatClampNeg)) (a := 145) (b := 149) (fun _ => rfl) trivial (fun h73 => ?_) (fun h73 => ?_)
                · -- 145: x69 = (mu_i H 1001079 (nI k).toNatClampNeg)
                  refine mw_go mu_g142 (k := 2) (f1 := (150, [(4, .inl x69), (3, .inl (1 : Int32)), (2, .inl (mu_i H 1001079 (nI k).toNatClampNeg)), (1, .inl (nI k)), (0, .inr (.inr (some 80)))], [.inl (1 : Int32), .inl (nI k), .inr (.inr (some 80))], H71)) (C := []) rfl trivial ?_
                  refine mw_cV (fun _ => rfl) (show mu_is H71 (some 80) 7 from hp71.1.is rfl) (pb_push (d := (d + 4)) (B := B) hp71 hBB (by omega) (nI k) (1 : Int32) ⟨k, by omega, rfl⟩) (fun H74 q74 => ?_)
                  obtain ⟨hp74, qt74, qi74, qs74, qb74, qa74⟩ := q74
                  have ht74 := ht71.trans qt74
                  have ha74 : ab m H74 = (tp 11 (ab m H69) (nI k) (1 : Int32) 0 0) := qa74.trans (by rw [ha71])
                  refine mw_go mu_g142 (k := 3) (f1 := (156, [(4, .inl x69), (3, .inl (1 : Int32)), (2, .inl (mu_i H 1001079 (nI k).toNatClampNeg)), (1, .inl (nI k)), (0, .inr (.inr (some 80)))], [.inl (4 : Int32), .inl (mu_i H 1001079 (nI k).toNatClampNeg), .inr (.inr (some 80))], H74)) (C := []) rfl trivial ?_
                  refine mw_if (P := (4 : Int32) < (mu_i H 1001079 (nI k).toNatClampNeg)) (a := 163) (b := 159) (fun _ => rfl) trivial (fun _ => ?_) (fun h75 => absurd h22 h75)
                  refine mw_go mu_g142 (k := 3) (f1 := (169, [(4, .inl x69), (3, .inl (1 : Int32)), (2, .inl (mu_i H 1001079 (nI k).toNatClampNeg)), (1, .inl (nI k)), (0, .inr (.inr (some 80)))], [.inl (1 : Int32)], (mu_si H74 80 6 (6 : Int32)))) (C := [mu_is H74 (some 80) 7]) rfl (show mu_is H74 (some 80) 7 from hp74.1.is rfl) ?_
                  have hp76 : ps m (mu_si H74 80 6 (6 : Int32)) := hp74.si (by decide) (by decide)
                  have ht76 : pt m B H (mu_si H74 80 6 (6 : Int32)) := ht74.trans (pt.si hp74)
                  have ha76 : ab m (mu_si H74 80 6 (6 : Int32)) = (tp 11 (ab m H69) (nI k) (1 : Int32) 0 0) := (ab_si hp74.1 hp74.2.1).trans ha74
                  have hb76 : ps_pot m (mu_si H74 80 6 (6 : Int32)) + ps_mp (mu_i H74 80 6) = ps_pot m H74 + 0 := ps_pot6 hp74 (6 : Int32)
                  have hc76 : ps_mp (mu_i H74 80 6) = 2 := by rw [show mu_i H74 80 6 = (8 : Int32) from ((qi74 6).trans ((qk71.1 6 (by decide)).trans ((qi69 6 (by decide)).trans hm0)))]; rfl
                  have hs76 : gi_sz (mu_si H74 80 6 (6 : Int32)) 89 = gi_sz H74 89 := rfl
                  have hi77_3 : mu_i (mu_si H74 80 6 (6 : Int32)) 80 3 = (mu_i H71 80 3) := (qi74 3)
                  have hi77_4 : mu_i (mu_si H74 80 6 (6 : Int32)) 80 4 = (mu_i H71 80 4) := (qi74 4)
                  have hi77_5 : mu_i (mu_si H74 80 6 (6 : Int32)) 80 5 = (mu_i H71 80 5) := (qi74 5)
                  have hi77_7 : mu_i (mu_si H74 80 6 (6 : Int32)) 80 7 = (mu_i H 80 7) := ((qi74 7).trans ((qk71.1 7 (by decide)).trans (qi69 7 (by decide))))
                  have hi77_8 : mu_i (mu_si H74 80 6 (6 : Int32)) 80 8 = (mu_i H69 80 8) := ((qi74 8).trans (qk71.1 8 (by decide)))
                  have hi77_9 : mu_i (mu_si H74 80 6 (6 : Int32)) 80 9 = (mu_i H 80 9) := ((qi74 9).trans ((qk71.1 9 (by decide)).trans (qi69 9 (by decide))))
                  have hi77_10 : mu_i (mu_si H74 80 6 (6 : Int32)) 80 10 = (mu_i H 80 10) := ((qi74 10).trans ((qk71.1 10 (by decide)).trans (qi69 10 (by decide))))
                  have hi77_11 : mu_i (mu_si H74 80 6 (6 : Int32)) 80 11 = (mu_i H 80 11) := ((qi74 11).trans ((qk71.1 11 (by decide)).trans (qi69 11 (by decide))))
                  exact mw_of (fun _ => mu_ret rfl (Or.inr rfl) ⟨_, (mu_si H74 80 6 (6 : Int32)), rfl, Or.inr ⟨rfl, hp76, ht76, by omega, (PC_c (show mu_i (mu_si H74 80 6 (6 : Int32)) 80 6 = 6 from rfl) (show mu_i (mu_si H74 80 6 (6 : Int32)) 80 9 = nI f from (hi77_9.trans hfr)) ha76 (hy69.pbin (q := k) hkk (Or.inr rfl)) (Or.inl ⟨Or.inr rfl, rfl, rfl⟩))⟩⟩)
                · -- 149: not x69 = (mu_i H 1001079 (nI k).toNatClampNeg)
                  refine mw_go mu_g142 (k := 1) (f1 := (150, [(4, .inl x69), (3, .inl (1 : Int32)), (2, .inl (mu_i H 1001079 (nI k).toNatClampNeg)), (1, .inl (nI k)), (0, .inr (.inr (some 80)))], [.inl (0 : Int32), .inl (nI k), .inr (.inr (some 80))], H71)) (C := []) rfl trivial ?_
                  refine mw_cV (fun _ => rfl) (show mu_is H71 (some 80) 7 from hp71.1.is rfl) (pb_push (d := (d + 4)) (B := B) hp71 hBB (by omega) (nI k) (0 : Int32) ⟨k, by omega, rfl⟩) (fun H78 q78 => ?_)
                  obtain ⟨hp78, qt78, qi78, qs78, qb78, qa78⟩ := q78
                  have ht78 := ht71.trans qt78
                  have ha78 : ab m H78 = (tp 11 (ab m H69) (nI k) (0 : Int32) 0 0) := qa78.trans (by rw [ha71])
                  refine mw_go mu_g142 (k := 3) (f1 := (156, [(4, .inl x69), (3, .inl (1 : Int32)), (2, .inl (mu_i H 1001079 (nI k).toNatClampNeg)), (1, .inl (nI k)), (0, .inr (.inr (some 80)))], [.inl (4 : Int32), .inl (mu_i H 1001079 (nI k).toNatClampNeg), .inr (.inr (some 80))], H78)) (C := []) rfl trivial ?_
                  refine mw_if (P := (4 : Int32) < (mu_i H 1001079 (nI k).toNatClampNeg)) (a := 163) (b := 159) (fun _ => rfl) trivial (fun _ => ?_) (fun h79 => absurd h22 h79)
                  refine mw_go mu_g142 (k := 3) (f1 := (169, [(4, .inl x69), (3, .inl (1 : Int32)), (2, .inl (mu_i H 1001079 (nI k).toNatClampNeg)), (1, .inl (nI k)), (0, .inr (.inr (some 80)))], [.inl (1 : Int32)], (mu_si H78 80 6 (6 : Int32)))) (C := [mu_is H78 (some 80) 7]) rfl (show mu_is H78 (some 80) 7 from hp78.1.is rfl) ?_
                  have hp80 : ps m (mu_si H78 80 6 (6 : Int32)) := hp78.si (by decide) (by decide)
                  have ht80 : pt m B H (mu_si H78 80 6 (6 : Int32)) := ht78.trans (pt.si hp78)
                  have ha80 : ab m (mu_si H78 80 6 (6 : Int32)) = (tp 11 (ab m H69) (nI k) (0 : Int32) 0 0) := (ab_si hp78.1 hp78.2.1).trans ha78
                  have hb80 : ps_pot m (mu_si H78 80 6 (6 : Int32)) + ps_mp (mu_i H78 80 6) = ps_pot m H78 + 0 := ps_pot6 hp78 (6 : Int32)
                  have hc80 : ps_mp (mu_i H78 80 6) = 2 := by rw [show mu_i H78 80 6 = (8 : Int32) from ((qi78 6).trans ((qk71.1 6 (by decide)).trans ((qi69 6 (by decide)).trans hm0)))]; rfl
                  have hs80 : gi_sz (mu_si H78 80 6 (6 : Int32)) 89 = gi_sz H78 89 := rfl
                  have hi81_3 : mu_i (mu_si H78 80 6 (6 : Int32)) 80 3 = (mu_i H71 80 3) := (qi78 3)
                  have hi81_4 : mu_i (mu_si H78 80 6 (6 : Int32)) 80 4 = (mu_i H71 80 4) := (qi78 4)
                  have hi81_5 : mu_i (mu_si H78 80 6 (6 : Int32)) 80 5 = (mu_i H71 80 5) := (qi78 5)
                  have hi81_7 : mu_i (mu_si H78 80 6 (6 : Int32)) 80 7 = (mu_i H 80 7) := ((qi78 7).trans ((qk71.1 7 (by decide)).trans (qi69 7 (by decide))))
                  have hi81_8 : mu_i (mu_si H78 80 6 (6 : Int32)) 80 8 = (mu_i H69 80 8) := ((qi78 8).trans (qk71.1 8 (by decide)))
                  have hi81_9 : mu_i (mu_si H78 80 6 (6 : Int32)) 80 9 = (mu_i H 80 9) := ((qi78 9).trans ((qk71.1 9 (by decide)).trans (qi69 9 (by decide))))
                  have hi81_10 : mu_i (mu_si H78 80 6 (6 : Int32)) 80 10 = (mu_i H 80 10) := ((qi78 10).trans ((qk71.1 10 (by decide)).trans (qi69 10 (by decide))))
                  have hi81_11 : mu_i (mu_si H78 80 6 (6 : Int32)) 80 11 = (mu_i H 80 11) := ((qi78 11).trans ((qk71.1 11 (by decide)).trans (qi69 11 (by decide))))
                  exact mw_of (fun _ => mu_ret rfl (Or.inr rfl) ⟨_, (mu_si H78 80 6 (6 : Int32)), rfl, Or.inr ⟨rfl, hp80, ht80, by omega, (PC_c (show mu_i (mu_si H78 80 6 (6 : Int32)) 80 6 = 6 from rfl) (show mu_i (mu_si H78 80 6 (6 : Int32)) 80 9 = nI f from (hi81_9.trans hfr)) ha80 (hy69.pbin (q := k) hkk (Or.inl rfl)) (Or.inl ⟨Or.inr rfl, rfl, rfl⟩))⟩⟩)
          · -- 49: not (4 : Int32) < (mu_i H 1001079 (nI k).toNatClampNeg)
            refine mw_go mu_g142 (k := 1) (f1 := (50, [(2, .inl (mu_i H 1001079 (nI k).toNatClampNeg)), (1, .inl (nI k)), (0, .inr (.inr (some 80)))], [.inr (.inr (some 80))], H)) (C := []) rfl trivial ?_
            refine mw_cV (fun _ => rfl) (show mu_is H (some 80) 7 from h.1.is rfl) (pb_endp (d := (d + 1)) (B := B) (f := f) h hBB (by omega) hy) (fun H82 q82 => ?_)
            obtain ⟨hp82, qt82, qi82, qb82, qs82, hy82⟩ := q82
            have ht82 := (pt.refl m B H).trans qt82
            have hc82 : ps_mp (mu_i H 80 6) = 2 := by rw [show mu_i H 80 6 = (8 : Int32) from hm0]; rfl
            refine mw_go mu_g142 (k := 2) (f1 := (55, [(2, .inl (mu_i H 1001079 (nI k).toNatClampNeg)), (1, .inl (nI k)), (0, .inr (.inr (some 80)))], [.inl (2 : Int32), .inl (mu_i H 1001079 (nI k).toNatClampNeg)], H82)) (C := []) rfl trivial ?_
            refine mw_if (P := (mu_i H 1001079 (nI k).toNatClampNeg) = (2 : Int32)) (a := 68) (b := 58) (fun _ => rfl) trivial (fun h83 => ?_) (fun h83 => ?_)
            · -- 68: (mu_i H 1001079 (nI k).toNatClampNeg) = (2 : Int32)
              refine mw_go mu_g142 (k := 4) (f1 := (72, [(3, .inl (0 : Int32)), (2, .inl (mu_i H 1001079 (nI k).toNatClampNeg)), (1, .inl (nI k)), (0, .inr (.inr (some 80)))], [.inl (0 : Int32), .inr (.inr (some 80))], H82)) (C := []) rfl trivial ?_
              refine mw_if (P := (0 : Int32) = 0) (a := 79) (b := 75) (fun _ => rfl) trivial (fun h84 => ?_) (fun h84 => absurd (by decide) h84)
              refine mw_go mu_g142 (k := 3) (f1 := (82, [(3, .inl (0 : Int32)), (2, .inl (mu_i H 1001079 (nI k).toNatClampNeg)), (1, .inl (nI k)), (0, .inr (.inr (some 80)))], [.inl ((mu_i H 1001079 (nI k).toNatClampNeg) + (1 : Int32)), .inr (.inr (some 80))], H82)) (C := []) rfl trivial ?_
              refine mw_cI (fun _ => rfl) (show mu_is H82 (some 80) 7 from hp82.1.is rfl) (pb_unwind (d := (d + 2)) (B := B) (f := f) hp82 hBB (by omega) ((mu_i H 1001079 (nI k).toNatClampNeg) + (1 : Int32)) hy82 (lv_arg hot hkk).2) (fun x85 H85 q85 => ?_)
              obtain ⟨hp85, qt85, qi85, qb85, qs85, hy85, ql85⟩ := q85
              have ht85 := ht82.trans qt85
              have hc85 : ps_mp (mu_i H82 80 6) = 2 := by rw [show mu_i H82 80 6 = (8 : Int32) from ((qi82 6 (by decide)).trans hm0)]; rfl
              refine mw_go mu_g142 (k := 3) (f1 := (90, [(4, .inl x85), (3, .inl (0 : Int32)), (2, .inl (mu_i H 1001079 (nI k).toNatClampNeg)), (1, .inl (nI k)), (0, .inr (.inr (some 80)))], [.inl (6 : Int32), .inl (mu_i H 1001079 (nI k).toNatClampNeg)], H85)) (C := []) rfl trivial ?_
              refine mw_if (P := (mu_i H 1001079 (nI k).toNatClampNeg) = (6 : Int32)) (a := 93) (b := 108) (fun _ => rfl) trivial (fun h86 => ?_) (fun h86 => ?_)
              · -- 93: (mu_i H 1001079 (nI k).toNatClampNeg) = (6 : Int32)
                refine mw_ot (fun hot => ?_)
                have hot : mu_ot H85 := hot
                refine mw_go mu_g142 (k := 2) (f1 := (97, [(4, .inl x85), (3, .inl (0 : Int32)), (2, .inl (mu_i H 1001079 (nI k).toNatClampNeg)), (1, .inl (nI k)), (0, .inr (.inr (some 80)))], [.inr (.inr (some 80)), .inr (.inr (some 1001079))], H85)) (C := []) rfl trivial ?_
                refine mw_cIe (fun _ => rfl) (show mu_is H85 (some 80) 7 from hp85.1.is rfl) (pa_top (d := (d + 6)) hp85) ?_
                refine mw_go mu_g142 (k := 2) (f1 := (103, [(4, .inl x85), (3, .inl (0 : Int32)), (2, .inl (mu_i H 1001079 (nI k).toNatClampNeg)), (1, .inl (nI k)), (0, .inr (.inr (some 80)))], [.inl (6 : Int32), .inl (mu_i H85 1001079 (ps_top H85).toNatClampNeg)], H85)) (C := [mu_isr H85 (some 1001079) 100, vp_in (ps_top H85) (mu_n H85 1001079)]) rfl (show (mu_isr H85 (some 1001079) 100) ∧ (vp_in (ps_top H85) (mu_n H85 1001079)) from ⟨(lv_ok hot).1, ps_lv hp85 hot⟩) ?_
                refine mw_if (P := (mu_i H85 1001079 (ps_top H85).toNatClampNeg) = (6 : Int32)) (a := 106) (b := 108) (fun _ => rfl) trivial (fun h88 => ?_) (fun h88 => ?_)
                · -- 106: (mu_i H85 1001079 (ps_top H85).toNatClampNeg) = (6 : Int32)
                  refine mw_go mu_g142 (k := 1) (f1 := (107, [(4, .inl x85), (3, .inl (0 : Int32)), (2, .inl (mu_i H 1001079 (nI k).toNatClampNeg)), (1, .inl (nI k)), (0, .inr (.inr (some 80)))], [.inl (0 : Int32)], H85)) (C := []) rfl trivial ?_
                  exact mw_of (fun _ => mu_ret rfl (Or.inl rfl) ⟨_, H85, rfl, Or.inl ⟨rfl, hp85, ht85, by omega⟩⟩)
                · -- 108: not (mu_i H85 1001079 (ps_top H85).toNatClampNeg) = (6 : Int32)
                  refine mw_go mu_g142 (k := 1) (f1 := (109, [(4, .inl x85), (3, .inl (0 : Int32)), (2, .inl (mu_i H 1001079 (nI k).toNatClampNeg)), (1, .inl (nI k)), (0, .inr (.inr (some 80)))], [.inr (.inr (some 80))], H85)) (C := []) rfl trivial ?_
                  refine mw_cV (fun _ => rfl) (show mu_is H85 (some 80) 7 from hp85.1.is rfl) (pb_adv (d := (d + 6)) (B := B) hp85) (fun H89 q89 => ?_)
                  obtain ⟨⟨hp89, qt89, qk89, qb89, qc89⟩, qa89⟩ := q89
                  have ht89 := ht85.trans qt89
                  have qs89 : gi_sz H89 89 = gi_sz H85 89 := qk89.2
                  have ha89 : ab m H89 = (ab m H85) := qa89
                  have qd89 := qc89 (show mu_i H85 80 4 < 114 from (by rw [((qi85 4 (by decide)).trans (qi82 4 (by decide)))]; exact (show (mu_i H 80 4) < 114 from qw1)))
                  refine mw_go mu_g142 (k := 2) (f1 := (115, [(4, .inl x85), (3, .inl (0 : Int32)), (2, .inl (mu_i H 1001079 (nI k).toNatClampNeg)), (1, .inl (nI k)), (0, .inr (.inr (some 80)))], [.inl (30 : Int32), .inl (nI k)], H89)) (C := []) rfl trivial ?_
                  refine mw_if (P := (nI k) = (30 : Int32)) (a := 118) (b := 137) (fun _ => rfl) trivial (fun h90 => absurd h90 h5) (fun _ => ?_)
                  refine mw_go mu_g142 (k := 4) (f1 := (142, [(4, .inl x85), (3, .inl (0 : Int32)), (2, .inl (mu_i H 1001079 (nI k).toNatClampNeg)), (1, .inl (nI k)), (0, .inr (.inr (some 80)))], [.inl (mu_i H 1001079 (nI k).toNatClampNeg), .inl x85, .inl (nI k), .inr (.inr (some 80))], H89)) (C := []) rfl trivial ?_
                  refine mw_if (P := x85 = (mu_i H 1001079 (nI k).toNatClampNeg)) (a := 145) (b := 149) (fun _ => rfl) trivial (fun h91 => ?_) (fun h91 => ?_)
                  · -- 145: x85 = (mu_i H 1001079 (nI k).toNatClampNeg)
                    refine mw_go mu_g142 (k := 2) (f1 := (150, [(4, .inl x85), (3, .inl (0 : Int32)), (2, .inl (mu_i H 1001079 (nI k).toNatClampNeg)), (1, .inl (nI k)), (0, .inr (.inr (some 80)))], [.inl (1 : Int32), .inl (nI k), .inr (.inr (some 80))], H89)) (C := []) rfl trivial ?_
                    refine mw_cV (fun _ => rfl) (show mu_is H89 (some 80) 7 from hp89.1.is rfl) (pb_push (d := (d + 4)) (B := B) hp89 hBB (by omega) (nI k) (1 : Int32) ⟨k, by omega, rfl⟩) (fun H92 q92 => ?_)
                    obtain ⟨hp92, qt92, qi92, qs92, qb92, qa92⟩ := q92
                    have ht92 := ht89.trans qt92
                    have ha92 : ab m H92 = (tp 11 (ab m H85) (nI k) (1 : Int32) 0 0) := qa92.trans (by rw [ha89])
                    refine mw_go mu_g142 (k := 3) (f1 := (156, [(4, .inl x85), (3, .inl (0 : Int32)), (2, .inl (mu_i H 1001079 (nI k).toNatClampNeg)), (1, .inl (nI k)), (0, .inr (.inr (some 80)))], [.inl (4 : Int32), .inl (mu_i H 1001079 (nI k).toNatClampNeg), .inr (.inr (some 80))], H92)) (C := []) rfl trivial ?_
                    refine mw_if (P := (4 : Int32) < (mu_i H 1001079 (nI k).toNatClampNeg)) (a := 163) (b := 159) (fun _ => rfl) trivial (fun h93 => absurd h93 h22) (fun _ => ?_)
                    refine mw_go mu_g142 (k := 4) (f1 := (169, [(4, .inl x85), (3, .inl (0 : Int32)), (2, .inl (mu_i H 1001079 (nI k).toNatClampNeg)), (1, .inl (nI k)), (0, .inr (.inr (some 80)))], [.inl (1 : Int32)], (mu_si H92 80 6 (5 : Int32)))) (C := [mu_is H92 (some 80) 7]) rfl (show mu_is H92 (some 80) 7 from hp92.1.is rfl) ?_
                    have hp94 : ps m (mu_si H92 80 6 (5 : Int32)) := hp92.si (by decide) (by decide)
                    have ht94 : pt m B H (mu_si H92 80 6 (5 : Int32)) := ht92.trans (pt.si hp92)
                    have ha94 : ab m (mu_si H92 80 6 (5 : Int32)) = (tp 11 (ab m H85) (nI k) (1 : Int32) 0 0) := (ab_si hp92.1 hp92.2.1).trans ha92
                    have hb94 : ps_pot m (mu_si H92 80 6 (5 : Int32)) + ps_mp (mu_i H92 80 6) = ps_pot m H92 + 0 := ps_pot6 hp92 (5 : Int32)
                    have hc94 : ps_mp (mu_i H92 80 6) = 2 := by rw [show mu_i H92 80 6 = (8 : Int32) from ((qi92 6).trans ((qk89.1 6 (by decide)).trans ((qi85 6 (by decide)).trans ((qi82 6 (by decide)).trans hm0))))]; rfl
                    have hs94 : gi_sz (mu_si H92 80 6 (5 : Int32)) 89 = gi_sz H92 89 := rfl
                    have hi95_3 : mu_i (mu_si H92 80 6 (5 : Int32)) 80 3 = (mu_i H89 80 3) := (qi92 3)
                    have hi95_4 : mu_i (mu_si H92 80 6 (5 : Int32)) 80 4 = (mu_i H89 80 4) := (qi92 4)
                    have hi95_5 : mu_i (mu_si H92 80 6 (5 : Int32)) 80 5 = (mu_i H89 80 5) := (qi92 5)
                    have hi95_7 : mu_i (mu_si H92 80 6 (5 : Int32)) 80 7 = (mu_i H 80 7) := ((qi92 7).trans ((qk89.1 7 (by decide)).trans ((qi85 7 (by decide)).trans (qi82 7 (by decide)))))
                    have hi95_8 : mu_i (mu_si H92 80 6 (5 : Int32)) 80 8 = (mu_i H85 80 8) := ((qi92 8).trans (qk89.1 8 (by decide)))
                    have hi95_9 : mu_i (mu_si H92 80 6 (5 : Int32)) 80 9 = (mu_i H 80 9) := ((qi92 9).trans ((qk89.1 9 (by decide)).trans ((qi85 9 (by decide)).trans (qi82 9 (by decide)))))
                    have hi95_10 : mu_i (mu_si H92 80 6 (5 : Int32)) 80 10 = (mu_i H 80 10) := ((qi92 10).trans ((qk89.1 10 (by decide)).trans ((qi85 10 (by decide)).trans (qi82 10 (by decide)))))
                    have hi95_11 : mu_i (mu_si H92 80 6 (5 : Int32)) 80 11 = (mu_i H 80 11) := ((qi92 11).trans ((qk89.1 11 (by decide)).trans ((qi85 11 (by decide)).trans (qi82 11 (by decide)))))
                    exact mw_of (fun _ => mu_ret rfl (Or.inr rfl) ⟨_, (mu_si H92 80 6 (5 : Int32)), rfl, Or.inr ⟨rfl, hp94, ht94, by omega, (PC_c (show mu_i (mu_si H92 80 6 (5 : Int32)) 80 6 = 5 from rfl) (show mu_i (mu_si H92 80 6 (5 : Int32)) 80 9 = nI f from (hi95_9.trans hfr)) ha94 (hy85.pbin (q := k) hkk (Or.inr rfl)) (Or.inl ⟨Or.inl rfl, rfl, rfl⟩))⟩⟩)
                  · -- 149: not x85 = (mu_i H 1001079 (nI k).toNatClampNeg)
                    refine mw_go mu_g142 (k := 1) (f1 := (150, [(4, .inl x85), (3, .inl (0 : Int32)), (2, .inl (mu_i H 1001079 (nI k).toNatClampNeg)), (1, .inl (nI k)), (0, .inr (.inr (some 80)))], [.inl (0 : Int32), .inl (nI k), .inr (.inr (some 80))], H89)) (C := []) rfl trivial ?_
                    refine mw_cV (fun _ => rfl) (show mu_is H89 (some 80) 7 from hp89.1.is rfl) (pb_push (d := (d + 4)) (B := B) hp89 hBB (by omega) (nI k) (0 : Int32) ⟨k, by omega, rfl⟩) (fun H96 q96 => ?_)
                    obtain ⟨hp96, qt96, qi96, qs96, qb96, qa96⟩ := q96
                    have ht96 := ht89.trans qt96
                    have ha96 : ab m H96 = (tp 11 (ab m H85) (nI k) (0 : Int32) 0 0) := qa96.trans (by rw [ha89])
                    refine mw_go mu_g142 (k := 3) (f1 := (156, [(4, .inl x85), (3, .inl (0 : Int32)), (2, .inl (mu_i H 1001079 (nI k).toNatClampNeg)), (1, .inl (nI k)), (0, .inr (.inr (some 80)))], [.inl (4 : Int32), .inl (mu_i H 1001079 (nI k).toNatClampNeg), .inr (.inr (some 80))], H96)) (C := []) rfl trivial ?_
                    refine mw_if (P := (4 : Int32) < (mu_i H 1001079 (nI k).toNatClampNeg)) (a := 163) (b := 159) (fun _ => rfl) trivial (fun h97 => absurd h97 h22) (fun _ => ?_)
                    refine mw_go mu_g142 (k := 4) (f1 := (169, [(4, .inl x85), (3, .inl (0 : Int32)), (2, .inl (mu_i H 1001079 (nI k).toNatClampNeg)), (1, .inl (nI k)), (0, .inr (.inr (some 80)))], [.inl (1 : Int32)], (mu_si H96 80 6 (5 : Int32)))) (C := [mu_is H96 (some 80) 7]) rfl (show mu_is H96 (some 80) 7 from hp96.1.is rfl) ?_
                    have hp98 : ps m (mu_si H96 80 6 (5 : Int32)) := hp96.si (by decide) (by decide)
                    have ht98 : pt m B H (mu_si H96 80 6 (5 : Int32)) := ht96.trans (pt.si hp96)
                    have ha98 : ab m (mu_si H96 80 6 (5 : Int32)) = (tp 11 (ab m H85) (nI k) (0 : Int32) 0 0) := (ab_si hp96.1 hp96.2.1).trans ha96
                    have hb98 : ps_pot m (mu_si H96 80 6 (5 : Int32)) + ps_mp (mu_i H96 80 6) = ps_pot m H96 + 0 := ps_pot6 hp96 (5 : Int32)
                    have hc98 : ps_mp (mu_i H96 80 6) = 2 := by rw [show mu_i H96 80 6 = (8 : Int32) from ((qi96 6).trans ((qk89.1 6 (by decide)).trans ((qi85 6 (by decide)).trans ((qi82 6 (by decide)).trans hm0))))]; rfl
                    have hs98 : gi_sz (mu_si H96 80 6 (5 : Int32)) 89 = gi_sz H96 89 := rfl
                    have hi99_3 : mu_i (mu_si H96 80 6 (5 : Int32)) 80 3 = (mu_i H89 80 3) := (qi96 3)
                    have hi99_4 : mu_i (mu_si H96 80 6 (5 : Int32)) 80 4 = (mu_i H89 80 4) := (qi96 4)
                    have hi99_5 : mu_i (mu_si H96 80 6 (5 : Int32)) 80 5 = (mu_i H89 80 5) := (qi96 5)
                    have hi99_7 : mu_i (mu_si H96 80 6 (5 : Int32)) 80 7 = (mu_i H 80 7) := ((qi96 7).trans ((qk89.1 7 (by decide)).trans ((qi85 7 (by decide)).trans (qi82 7 (by decide)))))
                    have hi99_8 : mu_i (mu_si H96 80 6 (5 : Int32)) 80 8 = (mu_i H85 80 8) := ((qi96 8).trans (qk89.1 8 (by decide)))
                    have hi99_9 : mu_i (mu_si H96 80 6 (5 : Int32)) 80 9 = (mu_i H 80 9) := ((qi96 9).trans ((qk89.1 9 (by decide)).trans ((qi85 9 (by decide)).trans (qi82 9 (by decide)))))
                    have hi99_10 : mu_i (mu_si H96 80 6 (5 : Int32)) 80 10 = (mu_i H 80 10) := ((qi96 10).trans ((qk89.1 10 (by decide)).trans ((qi85 10 (by decide)).trans (qi82 10 (by decide)))))
                    have hi99_11 : mu_i (mu_si H96 80 6 (5 : Int32)) 80 11 = (mu_i H 80 11) := ((qi96 11).trans ((qk89.1 11 (by decide)).trans ((qi85 11 (by decide)).trans (qi82 11 (by decide)))))
                    exact mw_of (fun _ => mu_ret rfl (Or.inr rfl) ⟨_, (mu_si H96 80 6 (5 : Int32)), rfl, Or.inr ⟨rfl, hp98, ht98, by omega, (PC_c (show mu_i (mu_si H96 80 6 (5 : Int32)) 80 6 = 5 from rfl) (show mu_i (mu_si H96 80 6 (5 : Int32)) 80 9 = nI f from (hi99_9.trans hfr)) ha98 (hy85.pbin (q := k) hkk (Or.inl rfl)) (Or.inl ⟨Or.inl rfl, rfl, rfl⟩))⟩⟩)
              · -- 108: not (mu_i H 1001079 (nI k).toNatClampNeg) = (6 : Int32)
                refine mw_go mu_g142 (k := 1) (f1 := (109, [(4, .inl x85), (3, .inl (0 : Int32)), (2, .inl (mu_i H 1001079 (nI k).toNatClampNeg)), (1, .inl (nI k)), (0, .inr (.inr (some 80)))], [.inr (.inr (some 80))], H85)) (C := []) rfl trivial ?_
                refine mw_cV (fun _ => rfl) (show mu_is H85 (some 80) 7 from hp85.1.is rfl) (pb_adv (d := (d + 6)) (B := B) hp85) (fun H100 q100 => ?_)
                obtain ⟨⟨hp100, qt100, qk100, qb100, qc100⟩, qa100⟩ := q100
                have ht100 := ht85.trans qt100
                have qs100 : gi_sz H100 89 = gi_sz H85 89 := qk100.2
                have ha100 : ab m H100 = (ab m H85) := qa100
                have qd100 := qc100 (show mu_i H85 80 4 < 114 from (by rw [((qi85 4 (by decide)).trans (qi82 4 (by decide)))]; exact (show (mu_i H 80 4) < 114 from qw1)))
                refine mw_go mu_g142 (k := 2) (f1 := (115, [(4, .inl x85), (3, .inl (0 : Int32)), (2, .inl (mu_i H 1001079 (nI k).toNatClampNeg)), (1, .inl (nI k)), (0, .inr (.inr (some 80)))], [.inl (30 : Int32), .inl (nI k)], H100)) (C := []) rfl trivial ?_
                refine mw_if (P := (nI k) = (30 : Int32)) (a := 118) (b := 137) (fun _ => rfl) trivial (fun h101 => absurd h101 h5) (fun _ => ?_)
                refine mw_go mu_g142 (k := 4) (f1 := (142, [(4, .inl x85), (3, .inl (0 : Int32)), (2, .inl (mu_i H 1001079 (nI k).toNatClampNeg)), (1, .inl (nI k)), (0, .inr (.inr (some 80)))], [.inl (mu_i H 1001079 (nI k).toNatClampNeg), .inl x85, .inl (nI k), .inr (.inr (some 80))], H100)) (C := []) rfl trivial ?_
                refine mw_if (P := x85 = (mu_i H 1001079 (nI k).toNatClampNeg)) (a := 145) (b := 149) (fun _ => rfl) trivial (fun h102 => ?_) (fun h102 => ?_)
                · -- 145: x85 = (mu_i H 1001079 (nI k).toNatClampNeg)
                  refine mw_go mu_g142 (k := 2) (f1 := (150, [(4, .inl x85), (3, .inl (0 : Int32)), (2, .inl (mu_i H 1001079 (nI k).toNatClampNeg)), (1, .inl (nI k)), (0, .inr (.inr (some 80)))], [.inl (1 : Int32), .inl (nI k), .inr (.inr (some 80))], H100)) (C := []) rfl trivial ?_
                  refine mw_cV (fun _ => rfl) (show mu_is H100 (some 80) 7 from hp100.1.is rfl) (pb_push (d := (d + 4)) (B := B) hp100 hBB (by omega) (nI k) (1 : Int32) ⟨k, by omega, rfl⟩) (fun H103 q103 => ?_)
                  obtain ⟨hp103, qt103, qi103, qs103, qb103, qa103⟩ := q103
                  have ht103 := ht100.trans qt103
                  have ha103 : ab m H103 = (tp 11 (ab m H85) (nI k) (1 : Int32) 0 0) := qa103.trans (by rw [ha100])
                  refine mw_go mu_g142 (k := 3) (f1 := (156, [(4, .inl x85), (3, .inl (0 : Int32)), (2, .inl (mu_i H 1001079 (nI k).toNatClampNeg)), (1, .inl (nI k)), (0, .inr (.inr (some 80)))], [.inl (4 : Int32), .inl (mu_i H 1001079 (nI k).toNatClampNeg), .inr (.inr (some 80))], H103)) (C := []) rfl trivial ?_
                  refine mw_if (P := (4 : Int32) < (mu_i H 1001079 (nI k).toNatClampNeg)) (a := 163) (b := 159) (fun _ => rfl) trivial (fun h104 => absurd h104 h22) (fun _ => ?_)
                  refine mw_go mu_g142 (k := 4) (f1 := (169, [(4, .inl x85), (3, .inl (0 : Int32)), (2, .inl (mu_i H 1001079 (nI k).toNatClampNeg)), (1, .inl (nI k)), (0, .inr (.inr (some 80)))], [.inl (1 : Int32)], (mu_si H103 80 6 (5 : Int32)))) (C := [mu_is H103 (some 80) 7]) rfl (show mu_is H103 (some 80) 7 from hp103.1.is rfl) ?_
                  have hp105 : ps m (mu_si H103 80 6 (5 : Int32)) := hp103.si (by decide) (by decide)
                  have ht105 : pt m B H (mu_si H103 80 6 (5 : Int32)) := ht103.trans (pt.si hp103)
                  have ha105 : ab m (mu_si H103 80 6 (5 : Int32)) = (tp 11 (ab m H85) (nI k) (1 : Int32) 0 0) := (ab_si hp103.1 hp103.2.1).trans ha103
                  have hb105 : ps_pot m (mu_si H103 80 6 (5 : Int32)) + ps_mp (mu_i H103 80 6) = ps_pot m H103 + 0 := ps_pot6 hp103 (5 : Int32)
                  have hc105 : ps_mp (mu_i H103 80 6) = 2 := by rw [show mu_i H103 80 6 = (8 : Int32) from ((qi103 6).trans ((qk100.1 6 (by decide)).trans ((qi85 6 (by decide)).trans ((qi82 6 (by decide)).trans hm0))))]; rfl
                  have hs105 : gi_sz (mu_si H103 80 6 (5 : Int32)) 89 = gi_sz H103 89 := rfl
                  have hi106_3 : mu_i (mu_si H103 80 6 (5 : Int32)) 80 3 = (mu_i H100 80 3) := (qi103 3)
                  have hi106_4 : mu_i (mu_si H103 80 6 (5 : Int32)) 80 4 = (mu_i H100 80 4) := (qi103 4)
                  have hi106_5 : mu_i (mu_si H103 80 6 (5 : Int32)) 80 5 = (mu_i H100 80 5) := (qi103 5)
                  have hi106_7 : mu_i (mu_si H103 80 6 (5 : Int32)) 80 7 = (mu_i H 80 7) := ((qi103 7).trans ((qk100.1 7 (by decide)).trans ((qi85 7 (by decide)).trans (qi82 7 (by decide)))))
                  have hi106_8 : mu_i (mu_si H103 80 6 (5 : Int32)) 80 8 = (mu_i H85 80 8) := ((qi103 8).trans (qk100.1 8 (by decide)))
                  have hi106_9 : mu_i (mu_si H103 80 6 (5 : Int32)) 80 9 = (mu_i H 80 9) := ((qi103 9).trans ((qk100.1 9 (by decide)).trans ((qi85 9 (by decide)).trans (qi82 9 (by decide)))))
                  have hi106_10 : mu_i (mu_si H103 80 6 (5 : Int32)) 80 10 = (mu_i H 80 10) := ((qi103 10).trans ((qk100.1 10 (by decide)).trans ((qi85 10 (by decide)).trans (qi82 10 (by decide)))))
                  have hi106_11 : mu_i (mu_si H103 80 6 (5 : Int32)) 80 11 = (mu_i H 80 11) := ((qi103 11).trans ((qk100.1 11 (by decide)).trans ((qi85 11 (by decide)).trans (qi82 11 (by decide)))))
                  exact mw_of (fun _ => mu_ret rfl (Or.inr rfl) ⟨_, (mu_si H103 80 6 (5 : Int32)), rfl, Or.inr ⟨rfl, hp105, ht105, by omega, (PC_c (show mu_i (mu_si H103 80 6 (5 : Int32)) 80 6 = 5 from rfl) (show mu_i (mu_si H103 80 6 (5 : Int32)) 80 9 = nI f from (hi106_9.trans hfr)) ha105 (hy85.pbin (q := k) hkk (Or.inr rfl)) (Or.inl ⟨Or.inl rfl, rfl, rfl⟩))⟩⟩)
                · -- 149: not x85 = (mu_i H 1001079 (nI k).toNatClampNeg)
                  refine mw_go mu_g142 (k := 1) (f1 := (150, [(4, .inl x85), (3, .inl (0 : Int32)), (2, .inl (mu_i H 1001079 (nI k).toNatClampNeg)), (1, .inl (nI k)), (0, .inr (.inr (some 80)))], [.inl (0 : Int32), .inl (nI k), .inr (.inr (some 80))], H100)) (C := []) rfl trivial ?_
                  refine mw_cV (fun _ => rfl) (show mu_is H100 (some 80) 7 from hp100.1.is rfl) (pb_push (d := (d + 4)) (B := B) hp100 hBB (by omega) (nI k) (0 : Int32) ⟨k, by omega, rfl⟩) (fun H107 q107 => ?_)
                  obtain ⟨hp107, qt107, qi107, qs107, qb107, qa107⟩ := q107
                  have ht107 := ht100.trans qt107
                  have ha107 : ab m H107 = (tp 11 (ab m H85) (nI k) (0 : Int32) 0 0) := qa107.trans (by rw [ha100])
                  refine mw_go mu_g142 (k := 3) (f1 := (156, [(4, .inl x85), (3, .inl (0 : Int32)), (2, .inl (mu_i H 1001079 (nI k).toNatClampNeg)), (1, .inl (nI k)), (0, .inr (.inr (some 80)))], [.inl (4 : Int32), .inl (mu_i H 1001079 (nI k).toNatClampNeg), .inr (.inr (some 80))], H107)) (C := []) rfl trivial ?_
                  refine mw_if (P := (4 : Int32) < (mu_i H 1001079 (nI k).toNatClampNeg)) (a := 163) (b := 159) (fun _ => rfl) trivial (fun h108 => absurd h108 h22) (fun _ => ?_)
                  refine mw_go mu_g142 (k := 4) (f1 := (169, [(4, .inl x85), (3, .inl (0 : Int32)), (2, .inl (mu_i H 1001079 (nI k).toNatClampNeg)), (1, .inl (nI k)), (0, .inr (.inr (some 80)))], [.inl (1 : Int32)], (mu_si H107 80 6 (5 : Int32)))) (C := [mu_is H107 (some 80) 7]) rfl (show mu_is H107 (some 80) 7 from hp107.1.is rfl) ?_
                  have hp109 : ps m (mu_si H107 80 6 (5 : Int32)) := hp107.si (by decide) (by decide)
                  have ht109 : pt m B H (mu_si H107 80 6 (5 : Int32)) := ht107.trans (pt.si hp107)
                  have ha109 : ab m (mu_si H107 80 6 (5 : Int32)) = (tp 11 (ab m H85) (nI k) (0 : Int32) 0 0) := (ab_si hp107.1 hp107.2.1).trans ha107
                  have hb109 : ps_pot m (mu_si H107 80 6 (5 : Int32)) + ps_mp (mu_i H107 80 6) = ps_pot m H107 + 0 := ps_pot6 hp107 (5 : Int32)
                  have hc109 : ps_mp (mu_i H107 80 6) = 2 := by rw [show mu_i H107 80 6 = (8 : Int32) from ((qi107 6).trans ((qk100.1 6 (by decide)).trans ((qi85 6 (by decide)).trans ((qi82 6 (by decide)).trans hm0))))]; rfl
                  have hs109 : gi_sz (mu_si H107 80 6 (5 : Int32)) 89 = gi_sz H107 89 := rfl
                  have hi110_3 : mu_i (mu_si H107 80 6 (5 : Int32)) 80 3 = (mu_i H100 80 3) := (qi107 3)
                  have hi110_4 : mu_i (mu_si H107 80 6 (5 : Int32)) 80 4 = (mu_i H100 80 4) := (qi107 4)
                  have hi110_5 : mu_i (mu_si H107 80 6 (5 : Int32)) 80 5 = (mu_i H100 80 5) := (qi107 5)
                  have hi110_7 : mu_i (mu_si H107 80 6 (5 : Int32)) 80 7 = (mu_i H 80 7) := ((qi107 7).trans ((qk100.1 7 (by decide)).trans ((qi85 7 (by decide)).trans (qi82 7 (by decide)))))
                  have hi110_8 : mu_i (mu_si H107 80 6 (5 : Int32)) 80 8 = (mu_i H85 80 8) := ((qi107 8).trans (qk100.1 8 (by decide)))
                  have hi110_9 : mu_i (mu_si H107 80 6 (5 : Int32)) 80 9 = (mu_i H 80 9) := ((qi107 9).trans ((qk100.1 9 (by decide)).trans ((qi85 9 (by decide)).trans (qi82 9 (by decide)))))
                  have hi110_10 : mu_i (mu_si H107 80 6 (5 : Int32)) 80 10 = (mu_i H 80 10) := ((qi107 10).trans ((qk100.1 10 (by decide)).trans ((qi85 10 (by decide)).trans (qi82 10 (by decide)))))
                  have hi110_11 : mu_i (mu_si H107 80 6 (5 : Int32)) 80 11 = (mu_i H 80 11) := ((qi107 11).trans ((qk100.1 11 (by decide)).trans ((qi85 11 (by decide)).trans (qi82 11 (by decide)))))
                  exact mw_of (fun _ => mu_ret rfl (Or.inr rfl) ⟨_, (mu_si H107 80 6 (5 : Int32)), rfl, Or.inr ⟨rfl, hp109, ht109, by omega, (PC_c (show mu_i (mu_si H107 80 6 (5 : Int32)) 80 6 = 5 from rfl) (show mu_i (mu_si H107 80 6 (5 : Int32)) 80 9 = nI f from (hi110_9.trans hfr)) ha109 (hy85.pbin (q := k) hkk (Or.inl rfl)) (Or.inl ⟨Or.inl rfl, rfl, rfl⟩))⟩⟩)
            · -- 58: not (mu_i H 1001079 (nI k).toNatClampNeg) = (2 : Int32)
              refine mw_go mu_g142 (k := 2) (f1 := (61, [(2, .inl (mu_i H 1001079 (nI k).toNatClampNeg)), (1, .inl (nI k)), (0, .inr (.inr (some 80)))], [.inl (6 : Int32), .inl (mu_i H 1001079 (nI k).toNatClampNeg)], H82)) (C := []) rfl trivial ?_
              refine mw_if (P := (mu_i H 1001079 (nI k).toNatClampNeg) = (6 : Int32)) (a := 68) (b := 64) (fun _ => rfl) trivial (fun h111 => ?_) (fun h111 => ?_)
              · -- 68: (mu_i H 1001079 (nI k).toNatClampNeg) = (6 : Int32)
                refine mw_go mu_g142 (k := 4) (f1 := (72, [(3, .inl (0 : Int32)), (2, .inl (mu_i H 1001079 (nI k).toNatClampNeg)), (1, .inl (nI k)), (0, .inr (.inr (some 80)))], [.inl (0 : Int32), .inr (.inr (some 80))], H82)) (C := []) rfl trivial ?_
                refine mw_if (P := (0 : Int32) = 0) (a := 79) (b := 75) (fun _ => rfl) trivial (fun h112 => ?_) (fun h112 => absurd (by decide) h112)
                refine mw_go mu_g142 (k := 3) (f1 := (82, [(3, .inl (0 : Int32)), (2, .inl (mu_i H 1001079 (nI k).toNatClampNeg)), (1, .inl (nI k)), (0, .inr (.inr (some 80)))], [.inl ((mu_i H 1001079 (nI k).toNatClampNeg) + (1 : Int32)), .inr (.inr (some 80))], H82)) (C := []) rfl trivial ?_
                refine mw_cI (fun _ => rfl) (show mu_is H82 (some 80) 7 from hp82.1.is rfl) (pb_unwind (d := (d + 2)) (B := B) (f := f) hp82 hBB (by omega) ((mu_i H 1001079 (nI k).toNatClampNeg) + (1 : Int32)) hy82 (lv_arg hot hkk).2) (fun x113 H113 q113 => ?_)
                obtain ⟨hp113, qt113, qi113, qb113, qs113, hy113, ql113⟩ := q113
                have ht113 := ht82.trans qt113
                have hc113 : ps_mp (mu_i H82 80 6) = 2 := by rw [show mu_i H82 80 6 = (8 : Int32) from ((qi82 6 (by decide)).trans hm0)]; rfl
                refine mw_go mu_g142 (k := 3) (f1 := (90, [(4, .inl x113), (3, .inl (0 : Int32)), (2, .inl (mu_i H 1001079 (nI k).toNatClampNeg)), (1, .inl (nI k)), (0, .inr (.inr (some 80)))], [.inl (6 : Int32), .inl (mu_i H 1001079 (nI k).toNatClampNeg)], H113)) (C := []) rfl trivial ?_
                refine mw_if (P := (mu_i H 1001079 (nI k).toNatClampNeg) = (6 : Int32)) (a := 93) (b := 108) (fun _ => rfl) trivial (fun _ => ?_) (fun h114 => absurd h111 h114)
                refine mw_ot (fun hot => ?_)
                have hot : mu_ot H113 := hot
                refine mw_go mu_g142 (k := 2) (f1 := (97, [(4, .inl x113), (3, .inl (0 : Int32)), (2, .inl (mu_i H 1001079 (nI k).toNatClampNeg)), (1, .inl (nI k)), (0, .inr (.inr (some 80)))], [.inr (.inr (some 80)), .inr (.inr (some 1001079))], H113)) (C := []) rfl trivial ?_
                refine mw_cIe (fun _ => rfl) (show mu_is H113 (some 80) 7 from hp113.1.is rfl) (pa_top (d := (d + 6)) hp113) ?_
                refine mw_go mu_g142 (k := 2) (f1 := (103, [(4, .inl x113), (3, .inl (0 : Int32)), (2, .inl (mu_i H 1001079 (nI k).toNatClampNeg)), (1, .inl (nI k)), (0, .inr (.inr (some 80)))], [.inl (6 : Int32), .inl (mu_i H113 1001079 (ps_top H113).toNatClampNeg)], H113)) (C := [mu_isr H113 (some 1001079) 100, vp_in (ps_top H113) (mu_n H113 1001079)]) rfl (show (mu_isr H113 (some 1001079) 100) ∧ (vp_in (ps_top H113) (mu_n H113 1001079)) from ⟨(lv_ok hot).1, ps_lv hp113 hot⟩) ?_
                refine mw_if (P := (mu_i H113 1001079 (ps_top H113).toNatClampNeg) = (6 : Int32)) (a := 106) (b := 108) (fun _ => rfl) trivial (fun h116 => ?_) (fun h116 => ?_)
                · -- 106: (mu_i H113 1001079 (ps_top H113).toNatClampNeg) = (6 : Int32)
                  refine mw_go mu_g142 (k := 1) (f1 := (107, [(4, .inl x113), (3, .inl (0 : Int32)), (2, .inl (mu_i H 1001079 (nI k).toNatClampNeg)), (1, .inl (nI k)), (0, .inr (.inr (some 80)))], [.inl (0 : Int32)], H113)) (C := []) rfl trivial ?_
                  exact mw_of (fun _ => mu_ret rfl (Or.inl rfl) ⟨_, H113, rfl, Or.inl ⟨rfl, hp113, ht113, by omega⟩⟩)
                · -- 108: not (mu_i H113 1001079 (ps_top H113).toNatClampNeg) = (6 : Int32)
                  refine mw_go mu_g142 (k := 1) (f1 := (109, [(4, .inl x113), (3, .inl (0 : Int32)), (2, .inl (mu_i H 1001079 (nI k).toNatClampNeg)), (1, .inl (nI k)), (0, .inr (.inr (some 80)))], [.inr (.inr (some 80))], H113)) (C := []) rfl trivial ?_
                  refine mw_cV (fun _ => rfl) (show mu_is H113 (some 80) 7 from hp113.1.is rfl) (pb_adv (d := (d + 6)) (B := B) hp113) (fun H117 q117 => ?_)
                  obtain ⟨⟨hp117, qt117, qk117, qb117, qc117⟩, qa117⟩ := q117
                  have ht117 := ht113.trans qt117
                  have qs117 : gi_sz H117 89 = gi_sz H113 89 := qk117.2
                  have ha117 : ab m H117 = (ab m H113) := qa117
                  have qd117 := qc117 (show mu_i H113 80 4 < 114 from (by rw [((qi113 4 (by decide)).trans (qi82 4 (by decide)))]; exact (show (mu_i H 80 4) < 114 from qw1)))
                  refine mw_go mu_g142 (k := 2) (f1 := (115, [(4, .inl x113), (3, .inl (0 : Int32)), (2, .inl (mu_i H 1001079 (nI k).toNatClampNeg)), (1, .inl (nI k)), (0, .inr (.inr (some 80)))], [.inl (30 : Int32), .inl (nI k)], H117)) (C := []) rfl trivial ?_
                  refine mw_if (P := (nI k) = (30 : Int32)) (a := 118) (b := 137) (fun _ => rfl) trivial (fun h118 => absurd h118 h5) (fun _ => ?_)
                  refine mw_go mu_g142 (k := 4) (f1 := (142, [(4, .inl x113), (3, .inl (0 : Int32)), (2, .inl (mu_i H 1001079 (nI k).toNatClampNeg)), (1, .inl (nI k)), (0, .inr (.inr (some 80)))], [.inl (mu_i H 1001079 (nI k).toNatClampNeg), .inl x113, .inl (nI k), .inr (.inr (some 80))], H117)) (C := []) rfl trivial ?_
                  refine mw_if (P := x113 = (mu_i H 1001079 (nI k).toNatClampNeg)) (a := 145) (b := 149) (fun _ => rfl) trivial (fun h119 => ?_) (fun h119 => ?_)
                  · -- 145: x113 = (mu_i H 1001079 (nI k).toNatClampNeg)
                    refine mw_go mu_g142 (k := 2) (f1 := (150, [(4, .inl x113), (3, .inl (0 : Int32)), (2, .inl (mu_i H 1001079 (nI k).toNatClampNeg)), (1, .inl (nI k)), (0, .inr (.inr (some 80)))], [.inl (1 : Int32), .inl (nI k), .inr (.inr (some 80))], H117)) (C := []) rfl trivial ?_
                    refine mw_cV (fun _ => rfl) (show mu_is H117 (some 80) 7 from hp117.1.is rfl) (pb_push (d := (d + 4)) (B := B) hp117 hBB (by omega) (nI k) (1 : Int32) ⟨k, by omega, rfl⟩) (fun H120 q120 => ?_)
                    obtain ⟨hp120, qt120, qi120, qs120, qb120, qa120⟩ := q120
                    have ht120 := ht117.trans qt120
                    have ha120 : ab m H120 = (tp 11 (ab m H113) (nI k) (1 : Int32) 0 0) := qa120.trans (by rw [ha117])
                    refine mw_go mu_g142 (k := 3) (f1 := (156, [(4, .inl x113), (3, .inl (0 : Int32)), (2, .inl (mu_i H 1001079 (nI k).toNatClampNeg)), (1, .inl (nI k)), (0, .inr (.inr (some 80)))], [.inl (4 : Int32), .inl (mu_i H 1001079 (nI k).toNatClampNeg), .inr (.inr (some 80))], H120)) (C := []) rfl trivial ?_
                    refine mw_if (P := (4 : Int32) < (mu_i H 1001079 (nI k).toNatClampNeg)) (a := 163) (b := 159) (fun _ => rfl) trivial (fun h121 => absurd h121 h22) (fun _ => ?_)
                    refine mw_go mu_g142 (k := 4) (f1 := (169, [(4, .inl x113), (3, .inl (0 : Int32)), (2, .inl (mu_i H 1001079 (nI k).toNatClampNeg)), (1, .inl (nI k)), (0, .inr (.inr (some 80)))], [.inl (1 : Int32)], (mu_si H120 80 6 (5 : Int32)))) (C := [mu_is H120 (some 80) 7]) rfl (show mu_is H120 (some 80) 7 from hp120.1.is rfl) ?_
                    have hp122 : ps m (mu_si H120 80 6 (5 : Int32)) := hp120.si (by decide) (by decide)
                    have ht122 : pt m B H (mu_si H120 80 6 (5 : Int32)) := ht120.trans (pt.si hp120)
                    have ha122 : ab m (mu_si H120 80 6 (5 : Int32)) = (tp 11 (ab m H113) (nI k) (1 : Int32) 0 0) := (ab_si hp120.1 hp120.2.1).trans ha120
                    have hb122 : ps_pot m (mu_si H120 80 6 (5 : Int32)) + ps_mp (mu_i H120 80 6) = ps_pot m H120 + 0 := ps_pot6 hp120 (5 : Int32)
                    have hc122 : ps_mp (mu_i H120 80 6) = 2 := by rw [show mu_i H120 80 6 = (8 : Int32) from ((qi120 6).trans ((qk117.1 6 (by decide)).trans ((qi113 6 (by decide)).trans ((qi82 6 (by decide)).trans hm0))))]; rfl
                    have hs122 : gi_sz (mu_si H120 80 6 (5 : Int32)) 89 = gi_sz H120 89 := rfl
                    have hi123_3 : mu_i (mu_si H120 80 6 (5 : Int32)) 80 3 = (mu_i H117 80 3) := (qi120 3)
                    have hi123_4 : mu_i (mu_si H120 80 6 (5 : Int32)) 80 4 = (mu_i H117 80 4) := (qi120 4)
                    have hi123_5 : mu_i (mu_si H120 80 6 (5 : Int32)) 80 5 = (mu_i H117 80 5) := (qi120 5)
                    have hi123_7 : mu_i (mu_si H120 80 6 (5 : Int32)) 80 7 = (mu_i H 80 7) := ((qi120 7).trans ((qk117.1 7 (by decide)).trans ((qi113 7 (by decide)).trans (qi82 7 (by decide)))))
                    have hi123_8 : mu_i (mu_si H120 80 6 (5 : Int32)) 80 8 = (mu_i H113 80 8) := ((qi120 8).trans (qk117.1 8 (by decide)))
                    have hi123_9 : mu_i (mu_si H120 80 6 (5 : Int32)) 80 9 = (mu_i H 80 9) := ((qi120 9).trans ((qk117.1 9 (by decide)).trans ((qi113 9 (by decide)).trans (qi82 9 (by decide)))))
                    have hi123_10 : mu_i (mu_si H120 80 6 (5 : Int32)) 80 10 = (mu_i H 80 10) := ((qi120 10).trans ((qk117.1 10 (by decide)).trans ((qi113 10 (by decide)).trans (qi82 10 (by decide)))))
                    have hi123_11 : mu_i (mu_si H120 80 6 (5 : Int32)) 80 11 = (mu_i H 80 11) := ((qi120 11).trans ((qk117.1 11 (by decide)).trans ((qi113 11 (by decide)).trans (qi82 11 (by decide)))))
                    exact mw_of (fun _ => mu_ret rfl (Or.inr rfl) ⟨_, (mu_si H120 80 6 (5 : Int32)), rfl, Or.inr ⟨rfl, hp122, ht122, by omega, (PC_c (show mu_i (mu_si H120 80 6 (5 : Int32)) 80 6 = 5 from rfl) (show mu_i (mu_si H120 80 6 (5 : Int32)) 80 9 = nI f from (hi123_9.trans hfr)) ha122 (hy113.pbin (q := k) hkk (Or.inr rfl)) (Or.inl ⟨Or.inl rfl, rfl, rfl⟩))⟩⟩)
                  · -- 149: not x113 = (mu_i H 1001079 (nI k).toNatClampNeg)
                    refine mw_go mu_g142 (k := 1) (f1 := (150, [(4, .inl x113), (3, .inl (0 : Int32)), (2, .inl (mu_i H 1001079 (nI k).toNatClampNeg)), (1, .inl (nI k)), (0, .inr (.inr (some 80)))], [.inl (0 : Int32), .inl (nI k), .inr (.inr (some 80))], H117)) (C := []) rfl trivial ?_
                    refine mw_cV (fun _ => rfl) (show mu_is H117 (some 80) 7 from hp117.1.is rfl) (pb_push (d := (d + 4)) (B := B) hp117 hBB (by omega) (nI k) (0 : Int32) ⟨k, by omega, rfl⟩) (fun H124 q124 => ?_)
                    obtain ⟨hp124, qt124, qi124, qs124, qb124, qa124⟩ := q124
                    have ht124 := ht117.trans qt124
                    have ha124 : ab m H124 = (tp 11 (ab m H113) (nI k) (0 : Int32) 0 0) := qa124.trans (by rw [ha117])
                    refine mw_go mu_g142 (k := 3) (f1 := (156, [(4, .inl x113), (3, .inl (0 : Int32)), (2, .inl (mu_i H 1001079 (nI k).toNatClampNeg)), (1, .inl (nI k)), (0, .inr (.inr (some 80)))], [.inl (4 : Int32), .inl (mu_i H 1001079 (nI k).toNatClampNeg), .inr (.inr (some 80))], H124)) (C := []) rfl trivial ?_
                    refine mw_if (P := (4 : Int32) < (mu_i H 1001079 (nI k).toNatClampNeg)) (a := 163) (b := 159) (fun _ => rfl) trivial (fun h125 => absurd h125 h22) (fun _ => ?_)
                    refine mw_go mu_g142 (k := 4) (f1 := (169, [(4, .inl x113), (3, .inl (0 : Int32)), (2, .inl (mu_i H 1001079 (nI k).toNatClampNeg)), (1, .inl (nI k)), (0, .inr (.inr (some 80)))], [.inl (1 : Int32)], (mu_si H124 80 6 (5 : Int32)))) (C := [mu_is H124 (some 80) 7]) rfl (show mu_is H124 (some 80) 7 from hp124.1.is rfl) ?_
                    have hp126 : ps m (mu_si H124 80 6 (5 : Int32)) := hp124.si (by decide) (by decide)
                    have ht126 : pt m B H (mu_si H124 80 6 (5 : Int32)) := ht124.trans (pt.si hp124)
                    have ha126 : ab m (mu_si H124 80 6 (5 : Int32)) = (tp 11 (ab m H113) (nI k) (0 : Int32) 0 0) := (ab_si hp124.1 hp124.2.1).trans ha124
                    have hb126 : ps_pot m (mu_si H124 80 6 (5 : Int32)) + ps_mp (mu_i H124 80 6) = ps_pot m H124 + 0 := ps_pot6 hp124 (5 : Int32)
                    have hc126 : ps_mp (mu_i H124 80 6) = 2 := by rw [show mu_i H124 80 6 = (8 : Int32) from ((qi124 6).trans ((qk117.1 6 (by decide)).trans ((qi113 6 (by decide)).trans ((qi82 6 (by decide)).trans hm0))))]; rfl
                    have hs126 : gi_sz (mu_si H124 80 6 (5 : Int32)) 89 = gi_sz H124 89 := rfl
                    have hi127_3 : mu_i (mu_si H124 80 6 (5 : Int32)) 80 3 = (mu_i H117 80 3) := (qi124 3)
                    have hi127_4 : mu_i (mu_si H124 80 6 (5 : Int32)) 80 4 = (mu_i H117 80 4) := (qi124 4)
                    have hi127_5 : mu_i (mu_si H124 80 6 (5 : Int32)) 80 5 = (mu_i H117 80 5) := (qi124 5)
                    have hi127_7 : mu_i (mu_si H124 80 6 (5 : Int32)) 80 7 = (mu_i H 80 7) := ((qi124 7).trans ((qk117.1 7 (by decide)).trans ((qi113 7 (by decide)).trans (qi82 7 (by decide)))))
                    have hi127_8 : mu_i (mu_si H124 80 6 (5 : Int32)) 80 8 = (mu_i H113 80 8) := ((qi124 8).trans (qk117.1 8 (by decide)))
                    have hi127_9 : mu_i (mu_si H124 80 6 (5 : Int32)) 80 9 = (mu_i H 80 9) := ((qi124 9).trans ((qk117.1 9 (by decide)).trans ((qi113 9 (by decide)).trans (qi82 9 (by decide)))))
                    have hi127_10 : mu_i (mu_si H124 80 6 (5 : Int32)) 80 10 = (mu_i H 80 10) := ((qi124 10).trans ((qk117.1 10 (by decide)).trans ((qi113 10 (by decide)).trans (qi82 10 (by decide)))))
                    have hi127_11 : mu_i (mu_si H124 80 6 (5 : Int32)) 80 11 = (mu_i H 80 11) := ((qi124 11).trans ((qk117.1 11 (by decide)).trans ((qi113 11 (by decide)).trans (qi82 11 (by decide)))))
                    exact mw_of (fun _ => mu_ret rfl (Or.inr rfl) ⟨_, (mu_si H124 80 6 (5 : Int32)), rfl, Or.inr ⟨rfl, hp126, ht126, by omega, (PC_c (show mu_i (mu_si H124 80 6 (5 : Int32)) 80 6 = 5 from rfl) (show mu_i (mu_si H124 80 6 (5 : Int32)) 80 9 = nI f from (hi127_9.trans hfr)) ha126 (hy113.pbin (q := k) hkk (Or.inl rfl)) (Or.inl ⟨Or.inl rfl, rfl, rfl⟩))⟩⟩)
              · -- 64: not (mu_i H 1001079 (nI k).toNatClampNeg) = (6 : Int32)
                refine mw_go mu_g142 (k := 5) (f1 := (72, [(3, .inl (1 : Int32)), (2, .inl (mu_i H 1001079 (nI k).toNatClampNeg)), (1, .inl (nI k)), (0, .inr (.inr (some 80)))], [.inl (1 : Int32), .inr (.inr (some 80))], H82)) (C := []) rfl trivial ?_
                refine mw_if (P := (1 : Int32) = 0) (a := 79) (b := 75) (fun _ => rfl) trivial (fun h128 => absurd h128 (by decide)) (fun h128 => ?_)
                refine mw_go mu_g142 (k := 2) (f1 := (82, [(3, .inl (1 : Int32)), (2, .inl (mu_i H 1001079 (nI k).toNatClampNeg)), (1, .inl (nI k)), (0, .inr (.inr (some 80)))], [.inl (mu_i H 1001079 (nI k).toNatClampNeg), .inr (.inr (some 80))], H82)) (C := []) rfl trivial ?_
                refine mw_cI (fun _ => rfl) (show mu_is H82 (some 80) 7 from hp82.1.is rfl) (pb_unwind (d := (d + 2)) (B := B) (f := f) hp82 hBB (by omega) (mu_i H 1001079 (nI k).toNatClampNeg) hy82 (lv_arg hot hkk).1) (fun x129 H129 q129 => ?_)
                obtain ⟨hp129, qt129, qi129, qb129, qs129, hy129, ql129⟩ := q129
                have ht129 := ht82.trans qt129
                have hc129 : ps_mp (mu_i H82 80 6) = 2 := by rw [show mu_i H82 80 6 = (8 : Int32) from ((qi82 6 (by decide)).trans hm0)]; rfl
                refine mw_go mu_g142 (k := 3) (f1 := (90, [(4, .inl x129), (3, .inl (1 : Int32)), (2, .inl (mu_i H 1001079 (nI k).toNatClampNeg)), (1, .inl (nI k)), (0, .inr (.inr (some 80)))], [.inl (6 : Int32), .inl (mu_i H 1001079 (nI k).toNatClampNeg)], H129)) (C := []) rfl trivial ?_
                refine mw_if (P := (mu_i H 1001079 (nI k).toNatClampNeg) = (6 : Int32)) (a := 93) (b := 108) (fun _ => rfl) trivial (fun h130 => absurd h130 h111) (fun _ => ?_)
                refine mw_go mu_g142 (k := 1) (f1 := (109, [(4, .inl x129), (3, .inl (1 : Int32)), (2, .inl (mu_i H 1001079 (nI k).toNatClampNeg)), (1, .inl (nI k)), (0, .inr (.inr (some 80)))], [.inr (.inr (some 80))], H129)) (C := []) rfl trivial ?_
                refine mw_cV (fun _ => rfl) (show mu_is H129 (some 80) 7 from hp129.1.is rfl) (pb_adv (d := (d + 6)) (B := B) hp129) (fun H131 q131 => ?_)
                obtain ⟨⟨hp131, qt131, qk131, qb131, qc131⟩, qa131⟩ := q131
                have ht131 := ht129.trans qt131
                have qs131 : gi_sz H131 89 = gi_sz H129 89 := qk131.2
                have ha131 : ab m H131 = (ab m H129) := qa131
                have qd131 := qc131 (show mu_i H129 80 4 < 114 from (by rw [((qi129 4 (by decide)).trans (qi82 4 (by decide)))]; exact (show (mu_i H 80 4) < 114 from qw1)))
                refine mw_go mu_g142 (k := 2) (f1 := (115, [(4, .inl x129), (3, .inl (1 : Int32)), (2, .inl (mu_i H 1001079 (nI k).toNatClampNeg)), (1, .inl (nI k)), (0, .inr (.inr (some 80)))], [.inl (30 : Int32), .inl (nI k)], H131)) (C := []) rfl trivial ?_
                refine mw_if (P := (nI k) = (30 : Int32)) (a := 118) (b := 137) (fun _ => rfl) trivial (fun h132 => absurd h132 h5) (fun _ => ?_)
                refine mw_go mu_g142 (k := 4) (f1 := (142, [(4, .inl x129), (3, .inl (1 : Int32)), (2, .inl (mu_i H 1001079 (nI k).toNatClampNeg)), (1, .inl (nI k)), (0, .inr (.inr (some 80)))], [.inl (mu_i H 1001079 (nI k).toNatClampNeg), .inl x129, .inl (nI k), .inr (.inr (some 80))], H131)) (C := []) rfl trivial ?_
                refine mw_if (P := x129 = (mu_i H 1001079 (nI k).toNatClampNeg)) (a := 145) (b := 149) (fun _ => rfl) trivial (fun h133 => ?_) (fun h133 => ?_)
                · -- 145: x129 = (mu_i H 1001079 (nI k).toNatClampNeg)
                  refine mw_go mu_g142 (k := 2) (f1 := (150, [(4, .inl x129), (3, .inl (1 : Int32)), (2, .inl (mu_i H 1001079 (nI k).toNatClampNeg)), (1, .inl (nI k)), (0, .inr (.inr (some 80)))], [.inl (1 : Int32), .inl (nI k), .inr (.inr (some 80))], H131)) (C := []) rfl trivial ?_
                  refine mw_cV (fun _ => rfl) (show mu_is H131 (some 80) 7 from hp131.1.is rfl) (pb_push (d := (d + 4)) (B := B) hp131 hBB (by omega) (nI k) (1 : Int32) ⟨k, by omega, rfl⟩) (fun H134 q134 => ?_)
                  obtain ⟨hp134, qt134, qi134, qs134, qb134, qa134⟩ := q134
                  have ht134 := ht131.trans qt134
                  have ha134 : ab m H134 = (tp 11 (ab m H129) (nI k) (1 : Int32) 0 0) := qa134.trans (by rw [ha131])
                  refine mw_go mu_g142 (k := 3) (f1 := (156, [(4, .inl x129), (3, .inl (1 : Int32)), (2, .inl (mu_i H 1001079 (nI k).toNatClampNeg)), (1, .inl (nI k)), (0, .inr (.inr (some 80)))], [.inl (4 : Int32), .inl (mu_i H 1001079 (nI k).toNatClampNeg), .inr (.inr (some 80))], H134)) (C := []) rfl trivial ?_
                  refine mw_if (P := (4 : Int32) < (mu_i H 1001079 (nI k).toNatClampNeg)) (a := 163) (b := 159) (fun _ => rfl) trivial (fun h135 => absurd h135 h22) (fun _ => ?_)
                  refine mw_go mu_g142 (k := 4) (f1 := (169, [(4, .inl x129), (3, .inl (1 : Int32)), (2, .inl (mu_i H 1001079 (nI k).toNatClampNeg)), (1, .inl (nI k)), (0, .inr (.inr (some 80)))], [.inl (1 : Int32)], (mu_si H134 80 6 (5 : Int32)))) (C := [mu_is H134 (some 80) 7]) rfl (show mu_is H134 (some 80) 7 from hp134.1.is rfl) ?_
                  have hp136 : ps m (mu_si H134 80 6 (5 : Int32)) := hp134.si (by decide) (by decide)
                  have ht136 : pt m B H (mu_si H134 80 6 (5 : Int32)) := ht134.trans (pt.si hp134)
                  have ha136 : ab m (mu_si H134 80 6 (5 : Int32)) = (tp 11 (ab m H129) (nI k) (1 : Int32) 0 0) := (ab_si hp134.1 hp134.2.1).trans ha134
                  have hb136 : ps_pot m (mu_si H134 80 6 (5 : Int32)) + ps_mp (mu_i H134 80 6) = ps_pot m H134 + 0 := ps_pot6 hp134 (5 : Int32)
                  have hc136 : ps_mp (mu_i H134 80 6) = 2 := by rw [show mu_i H134 80 6 = (8 : Int32) from ((qi134 6).trans ((qk131.1 6 (by decide)).trans ((qi129 6 (by decide)).trans ((qi82 6 (by decide)).trans hm0))))]; rfl
                  have hs136 : gi_sz (mu_si H134 80 6 (5 : Int32)) 89 = gi_sz H134 89 := rfl
                  have hi137_3 : mu_i (mu_si H134 80 6 (5 : Int32)) 80 3 = (mu_i H131 80 3) := (qi134 3)
                  have hi137_4 : mu_i (mu_si H134 80 6 (5 : Int32)) 80 4 = (mu_i H131 80 4) := (qi134 4)
                  have hi137_5 : mu_i (mu_si H134 80 6 (5 : Int32)) 80 5 = (mu_i H131 80 5) := (qi134 5)
                  have hi137_7 : mu_i (mu_si H134 80 6 (5 : Int32)) 80 7 = (mu_i H 80 7) := ((qi134 7).trans ((qk131.1 7 (by decide)).trans ((qi129 7 (by decide)).trans (qi82 7 (by decide)))))
                  have hi137_8 : mu_i (mu_si H134 80 6 (5 : Int32)) 80 8 = (mu_i H129 80 8) := ((qi134 8).trans (qk131.1 8 (by decide)))
                  have hi137_9 : mu_i (mu_si H134 80 6 (5 : Int32)) 80 9 = (mu_i H 80 9) := ((qi134 9).trans ((qk131.1 9 (by decide)).trans ((qi129 9 (by decide)).trans (qi82 9 (by decide)))))
                  have hi137_10 : mu_i (mu_si H134 80 6 (5 : Int32)) 80 10 = (mu_i H 80 10) := ((qi134 10).trans ((qk131.1 10 (by decide)).trans ((qi129 10 (by decide)).trans (qi82 10 (by decide)))))
                  have hi137_11 : mu_i (mu_si H134 80 6 (5 : Int32)) 80 11 = (mu_i H 80 11) := ((qi134 11).trans ((qk131.1 11 (by decide)).trans ((qi129 11 (by decide)).trans (qi82 11 (by decide)))))
                  exact mw_of (fun _ => mu_ret rfl (Or.inr rfl) ⟨_, (mu_si H134 80 6 (5 : Int32)), rfl, Or.inr ⟨rfl, hp136, ht136, by omega, (PC_c (show mu_i (mu_si H134 80 6 (5 : Int32)) 80 6 = 5 from rfl) (show mu_i (mu_si H134 80 6 (5 : Int32)) 80 9 = nI f from (hi137_9.trans hfr)) ha136 (hy129.pbin (q := k) hkk (Or.inr rfl)) (Or.inl ⟨Or.inl rfl, rfl, rfl⟩))⟩⟩)
                · -- 149: not x129 = (mu_i H 1001079 (nI k).toNatClampNeg)
                  refine mw_go mu_g142 (k := 1) (f1 := (150, [(4, .inl x129), (3, .inl (1 : Int32)), (2, .inl (mu_i H 1001079 (nI k).toNatClampNeg)), (1, .inl (nI k)), (0, .inr (.inr (some 80)))], [.inl (0 : Int32), .inl (nI k), .inr (.inr (some 80))], H131)) (C := []) rfl trivial ?_
                  refine mw_cV (fun _ => rfl) (show mu_is H131 (some 80) 7 from hp131.1.is rfl) (pb_push (d := (d + 4)) (B := B) hp131 hBB (by omega) (nI k) (0 : Int32) ⟨k, by omega, rfl⟩) (fun H138 q138 => ?_)
                  obtain ⟨hp138, qt138, qi138, qs138, qb138, qa138⟩ := q138
                  have ht138 := ht131.trans qt138
                  have ha138 : ab m H138 = (tp 11 (ab m H129) (nI k) (0 : Int32) 0 0) := qa138.trans (by rw [ha131])
                  refine mw_go mu_g142 (k := 3) (f1 := (156, [(4, .inl x129), (3, .inl (1 : Int32)), (2, .inl (mu_i H 1001079 (nI k).toNatClampNeg)), (1, .inl (nI k)), (0, .inr (.inr (some 80)))], [.inl (4 : Int32), .inl (mu_i H 1001079 (nI k).toNatClampNeg), .inr (.inr (some 80))], H138)) (C := []) rfl trivial ?_
                  refine mw_if (P := (4 : Int32) < (mu_i H 1001079 (nI k).toNatClampNeg)) (a := 163) (b := 159) (fun _ => rfl) trivial (fun h139 => absurd h139 h22) (fun _ => ?_)
                  refine mw_go mu_g142 (k := 4) (f1 := (169, [(4, .inl x129), (3, .inl (1 : Int32)), (2, .inl (mu_i H 1001079 (nI k).toNatClampNeg)), (1, .inl (nI k)), (0, .inr (.inr (some 80)))], [.inl (1 : Int32)], (mu_si H138 80 6 (5 : Int32)))) (C := [mu_is H138 (some 80) 7]) rfl (show mu_is H138 (some 80) 7 from hp138.1.is rfl) ?_
                  have hp140 : ps m (mu_si H138 80 6 (5 : Int32)) := hp138.si (by decide) (by decide)
                  have ht140 : pt m B H (mu_si H138 80 6 (5 : Int32)) := ht138.trans (pt.si hp138)
                  have ha140 : ab m (mu_si H138 80 6 (5 : Int32)) = (tp 11 (ab m H129) (nI k) (0 : Int32) 0 0) := (ab_si hp138.1 hp138.2.1).trans ha138
                  have hb140 : ps_pot m (mu_si H138 80 6 (5 : Int32)) + ps_mp (mu_i H138 80 6) = ps_pot m H138 + 0 := ps_pot6 hp138 (5 : Int32)
                  have hc140 : ps_mp (mu_i H138 80 6) = 2 := by rw [show mu_i H138 80 6 = (8 : Int32) from ((qi138 6).trans ((qk131.1 6 (by decide)).trans ((qi129 6 (by decide)).trans ((qi82 6 (by decide)).trans hm0))))]; rfl
                  have hs140 : gi_sz (mu_si H138 80 6 (5 : Int32)) 89 = gi_sz H138 89 := rfl
                  have hi141_3 : mu_i (mu_si H138 80 6 (5 : Int32)) 80 3 = (mu_i H131 80 3) := (qi138 3)
                  have hi141_4 : mu_i (mu_si H138 80 6 (5 : Int32)) 80 4 = (mu_i H131 80 4) := (qi138 4)
                  have hi141_5 : mu_i (mu_si H138 80 6 (5 : Int32)) 80 5 = (mu_i H131 80 5) := (qi138 5)
                  have hi141_7 : mu_i (mu_si H138 80 6 (5 : Int32)) 80 7 = (mu_i H 80 7) := ((qi138 7).trans ((qk131.1 7 (by decide)).trans ((qi129 7 (by decide)).trans (qi82 7 (by decide)))))
                  have hi141_8 : mu_i (mu_si H138 80 6 (5 : Int32)) 80 8 = (mu_i H129 80 8) := ((qi138 8).trans (qk131.1 8 (by decide)))
                  have hi141_9 : mu_i (mu_si H138 80 6 (5 : Int32)) 80 9 = (mu_i H 80 9) := ((qi138 9).trans ((qk131.1 9 (by decide)).trans ((qi129 9 (by decide)).trans (qi82 9 (by decide)))))
                  have hi141_10 : mu_i (mu_si H138 80 6 (5 : Int32)) 80 10 = (mu_i H 80 10) := ((qi138 10).trans ((qk131.1 10 (by decide)).trans ((qi129 10 (by decide)).trans (qi82 10 (by decide)))))
                  have hi141_11 : mu_i (mu_si H138 80 6 (5 : Int32)) 80 11 = (mu_i H 80 11) := ((qi138 11).trans ((qk131.1 11 (by decide)).trans ((qi129 11 (by decide)).trans (qi82 11 (by decide)))))
                  exact mw_of (fun _ => mu_ret rfl (Or.inr rfl) ⟨_, (mu_si H138 80 6 (5 : Int32)), rfl, Or.inr ⟨rfl, hp140, ht140, by omega, (PC_c (show mu_i (mu_si H138 80 6 (5 : Int32)) 80 6 = 5 from rfl) (show mu_i (mu_si H138 80 6 (5 : Int32)) 80 9 = nI f from (hi141_9.trans hfr)) ha140 (hy129.pbin (q := k) hkk (Or.inl rfl)) (Or.inl ⟨Or.inl rfl, rfl, rfl⟩))⟩⟩)
end ParserParts2
