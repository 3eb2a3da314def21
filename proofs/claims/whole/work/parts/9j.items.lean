/-! THE PARSER ONCE MORE: names, values, items -/
theorem rr_sym {m j : Nat} (hm : m = 2 ∨ m = 41) (hj : j < 13) : (Nat.beq (rr m j) 86 || Nat.beq (rr m j) 81) = false := by
  have e : rr m j ≠ 86 ∧ rr m j ≠ 81 := by
    unfold rr
    split
    · omega
    · split <;> omega
  cases hx : Nat.beq (rr m j) 86 with
  | true => exact absurd (Nat.eq_of_beq_eq_true hx) e.1
  | false =>
    cases hy : Nat.beq (rr m j) 81 with
    | true => exact absurd (Nat.eq_of_beq_eq_true hy) e.2
    | false => rfl
/-- the content stays, MODULES and stack are as they were -/
def kq (s s' : Ts) : Prop := CT s' ∧ s' 1 = s 1 ∧ s' 11 = s 11
/-- NAMES are being read -/
def nq (s s' : Ts) : Prop := CT s' ∧ (∀ j, j ≠ 9 → j ≠ 10 → s' j = s j) ∧ s' 9 = tput 4 (s 9) (nI (s 10).1) 0 0 (-1) ∧ (s 10).1 ≤ (s' 10).1
/-- NAMES have been read -/
def nr (s s' : Ts) : Prop := CT s' ∧ (∀ j, j ≠ 9 → j ≠ 10 → s' j = s j) ∧ (s' 9).1 = (s 9).1 + 1 ∧ (s 10).1 ≤ (s' 10).1
/-- the values of a LIST are being read -/
def vq (v : Nat) (s s' : Ts) : Prop := CT s' ∧ lastv s' v 2 ∧ (s' 1 = s 1 ∧ s' 11 = s 11) ∧ (s' 3).2 v 2 = nI (s 4).1 ∧ (s 4).1 ≤ (s' 4).1 ∧ ls2 (s' 3) v ≤ (s 4).1
section Reads
variable {s s' : Ts} {a b c e : Int32} {m v : Nat} {H : mu_H}
theorem kq.param (h : kq s s') : kq s (tp 2 s' a b c e) := ⟨h.1.param, h.2⟩
theorem nq_new (h : CT s) (hb : (s 10).1 < 2147483648) : nq s (tp 9 s (nI (s 10).1) 0 0 (-1)) := ⟨h.ref hb, fun j h9 _ => tp_ne h9, tp_at, Nat.le_refl _⟩
theorem nq.step (h : nq s s') : nq s (tp 10 s' a b c e) := ⟨h.1.step, fun j h9 h10 => (tp_ne h10).trans (h.2.1 j h9 h10), h.2.2.1, by show (s 10).1 ≤ (tp 10 s' a b c e 10).1; rw [tp_n]; have := h.2.2.2; omega⟩
theorem nq.val (hp : ps m H) (h : nq s (ab m H)) (hb : (s 9).1 < 2147483648) : mu_i H (m + 21) 2 - rw_get H (m + 19) 4 (gi_sz H (m + 19)) (nI (s 9).1) 0 = nI ((ab m H 10).1 - (s 10).1) := by
  have e1 : mu_i H (m + 21) 2 = nI (ab m H 10).1 := sz_n hp rfl (j := 10) (by decide)
  have e2 : rw_get H (m + 19) 4 (gi_sz H (m + 19)) (nI (s 9).1) 0 = (ab m H 9).2 (s 9).1 0 := rw_get_tb (H := H) (r := m + 19) (W := 4) hb rfl
  rw [e1, e2, h.2.2.1, show (tput 4 (s 9) (nI (s 10).1) 0 0 (-1)).2 (s 9).1 0 = nI (s 10).1 from if_pos rfl]
  exact pk_sub h.2.2.2
theorem nq.fin (h : nq s s') (hb : (s 9).1 < 2147483648) : nr s (tx 9 s' (nI (s 9).1) 1 (nI ((s' 10).1 - (s 10).1))) := by
  refine ⟨h.1.rlen (a := (s 10).1) (by rw [h.2.2.1]; rfl) hb (by rw [h.2.2.1]; exact if_pos rfl) (by have := h.2.2.2; omega), fun j h9 h10 => (tx_ne h9).trans (h.2.1 j h9 h10), ?_, h.2.2.2⟩
  rw [tx_at, tset_n, h.2.2.1]
  rfl
theorem vq_new (h : CT s) (hl : lastv s v 0) (h2 : (s 3).2 v 2 = 0) (h3 : (s 3).2 v 3 = 0) : vq v s (tx 3 (tx 3 s (nI v) 1 (nI 2)) (nI v) 2 (nI (s 4).1)) := by
  obtain ⟨c1, l1, a1, b1⟩ := h.vty (y := 2) hl h2 h3 (by decide)
  obtain ⟨c2, l2, a2, b2, d2⟩ := c1.vla l1 b1
  exact ⟨c2, l2, ⟨rfl, rfl⟩, a2, Nat.le_refl _, d2⟩
theorem vq.put (h : vq v s s') : vq v s (tp 4 s' a b c e) := ⟨h.1.value, h.2.1, h.2.2.1, h.2.2.2.1, by show (s 4).1 ≤ (tp 4 s' a b c e 4).1; rw [tp_n]; have := h.2.2.2.2.1; omega, h.2.2.2.2.2⟩
theorem vq.val (hp : ps m H) (h : vq v s (ab m H)) : mu_i H (m + 9) 2 - rw_get H (m + 7) 6 (gi_sz H (m + 7)) (nI v) 2 = nI ((ab m H 4).1 - (s 4).1) := by
  have e1 : mu_i H (m + 9) 2 = nI (ab m H 4).1 := sz_n hp rfl (j := 4) (by decide)
  have e2 : rw_get H (m + 7) 6 (gi_sz H (m + 7)) (nI v) 2 = (ab m H 3).2 v 2 := rw_get_tb (H := H) (r := m + 7) (W := 6) h.2.1.2.1 rfl
  rw [e1, e2, h.2.2.2.1]
  exact pk_sub h.2.2.2.2.1
theorem vq.fin (h : vq v s s') (hb : (s' 4).1 < 2147483648) : kq s (tx 3 s' (nI v) 3 (nI ((s' 4).1 - (s 4).1))) := ⟨h.1.vlb h.2.1 h.2.2.2.1 h.2.2.2.2.1 hb h.2.2.2.2.2, h.2.2.1⟩
theorem inst_c (h : CT s) (hl : lastv s v 0) (h2 : (s 3).2 v 2 = 0) (h3 : (s 3).2 v 3 = 0) : CT (tx 3 (tx 3 (tx 3 s (nI v) 1 (nI 3)) (nI v) 4 a) (nI v) 2 (nI (s 5).1)) ∧ lastv (tx 3 (tx 3 (tx 3 s (nI v) 1 (nI 3)) (nI v) 4 a) (nI v) 2 (nI (s 5).1)) v 3 ∧ (tx 3 (tx 3 (tx 3 s (nI v) 1 (nI 3)) (nI v) 4 a) (nI v) 2 (nI (s 5).1) 3).2 v 2 = nI (s 5).1 ∧ (tx 3 (tx 3 (tx 3 s (nI v) 1 (nI 3)) (nI v) 4 a) (nI v) 2 (nI (s 5).1) 3).2 v 3 = 0 := by
  obtain ⟨c1, l1, a1, b1⟩ := h.vty (y := 3) hl h2 h3 (by decide)
  obtain ⟨c2, l2, b2⟩ := c1.vmo (x := a) l1 a1 b1
  obtain ⟨c3, l3, a3, b3⟩ := c2.vga l2 b2
  exact ⟨c3, l3, a3, b3⟩
end Reads
section ParserItems2
variable {H : mu_H} {m B d : Nat}
theorem pb_sym (h : ps m H) (w : Int32) : mu_TI (mu_D (d + 2)) 118 [.inr (.inr (some 81)), .inl w] H (fun _ H1 => ps m H1 ∧ pt m B H H1 ∧ (∀ i, mu_i H1 80 i = mu_i H 80 i) ∧ gi_sz H1 89 = gi_sz H 89 ∧ ps_pot m H1 = ps_pot m H ∧ ab m H1 = ab m H) := by
  refine (lx_makeSymbol_ok (h.1.is rfl) (h.1.r (p := 81) (j := 9) (q := 86) rfl).symm (h.1.w (r := 86) (W := 4) rfl)).imp (fun x H1 q => ?_)
  obtain ⟨-, q⟩ := q
  split at q
  · obtain ⟨g1, g2⟩ := h.1.set (r := 86) (W := 4) (j := 3) (row := w) (v := mu_i H 81 11) rfl
    have hk : gk (fun p => Nat.beq p 86 || Nat.beq p 81) H (rw_set H 86 4 (gi_sz H 86) w 3 (mu_i H 81 11)) := gk.set h.1 rfl rfl
    have g3 : gi H1 := by rw [q]; exact g1.si (k := 4) rfl rfl
    have hk2 : gk (fun p => Nat.beq p 86 || Nat.beq p 81) H H1 := by rw [q]; exact hk.trans (gk.si g1 (k := 4) rfl rfl)
    obtain ⟨k1, k2, k3, k4⟩ := h.keep g3 hk2 rfl rfl rfl
    have hz : ∀ r' W', r' ≠ 81 → gi_w r' = some W' → gi_sz H1 r' = gi_sz H r' := fun r' W' hr hw => by
      have e : gi_sz H1 r' = gi_sz (rw_set H 86 4 (gi_sz H 86) w 3 (mu_i H 81 11)) r' := by
        rw [q]
        unfold lx_sym gi_sz
        rw [mu_i_si, if_neg (fun z => hr z.1)]
      rw [e]
      unfold gi_sz
      exact congrArg _ (g2 r' 2 (by have : mu_k H r' = 10 := (h.1.w hw).1.2.2; omega))
    have hc : ∀ r', gi_cap H1 r' = gi_cap H r' := fun r' => by
      rw [q]
      show mu_n (rw_set H 86 4 (gi_sz H 86) w 3 (mu_i H 81 11)) (mu_p (mu_r (rw_set H 86 4 (gi_sz H 86) w 3 (mu_i H 81 11)) r' 1)) = _
      unfold gi_cap mu_n
      rw [rw_set_r, (rw_set_eq H 86 4 (gi_sz H 86) w 3 (mu_i H 81 11)).2.1]
    have hm := h.2.1
    refine ⟨k1, ⟨hk2.mono (fun p hp => ?_), fun i => by rw [q]; exact rw_set_r _ _ _ _ _ _ _ _ _, fun i hi => ?_, by rw [hc]; exact Nat.le_max_left _ _, hc 86⟩, k2, k3, ?_, gk.ab hm hk2 (fun j hj => rr_sym hm hj)⟩
    · rw [Bool.or_eq_true] at hp
      rcases hp with e | e
      · exact decide_eq_true (Or.inr (Or.inr (Or.inl (Nat.eq_of_beq_eq_true e))))
      · exact decide_eq_true (Or.inr (Or.inl (Nat.eq_of_beq_eq_true e)))
    · rw [hz _ _ (by omega) (ps_wm hm hi), hc]
      exact ⟨Nat.le_refl _, Nat.le_max_left _ _⟩
    · unfold ps_pot
      rw [hz (m + 1) _ (by omega) h.w0, hz (m + 3) _ (by omega) h.w1, hz (m + 5) _ (by omega) h.w2, hz (m + 7) _ (by omega) h.w3, hz (m + 9) _ (by omega) h.w4, hz (m + 11) _ (by omega) h.w5, hz (m + 13) _ (by omega) h.w6, hz (m + 15) _ (by omega) h.w7, hz (m + 17) _ (by omega) h.w8, hz (m + 19) _ (by omega) h.w9, hz (m + 21) _ (by omega) h.w10, k3, k4, k2, k2]
  · rw [q]
    exact ⟨h, pt.refl m B H, fun _ => rfl, rfl, rfl, rfl⟩
theorem pb_params (h : ps m H) (hBB : B ≤ 1000000) (hB : ps_pot m H ≤ B + 98) (hk0 : mu_i H 80 4 < 114) (hc0 : CT (ab m H)) : mu_TI (mu_D (d + 4)) 170 [.inr (.inr (some 80))] H (fun x H1 => (x = 0 ∧ ps m H1 ∧ pt m B H H1 ∧ ps_pot m H1 ≤ ps_pot m H + 20) ∨ (x = 1 ∧ ps m H1 ∧ pt m B H H1 ∧ ps_pot m H1 + 12 ≤ ps_pot m H ∧ kq (ab m H) (ab m H1) ∧ (∀ j, 6 ≤ j → mu_i H1 80 j = mu_i H 80 j))) := by
  refine mu_meth (M := mu_m170) rfl rfl ?_
  refine mw_ht (mu_fn_of (show [0].Nodup by decide)) ?_
  refine mw_go mu_g170 (k := 2) (f1 := (2, [(1, .inl (0 : Int32)), (0, .inr (.inr (some 80)))], [], H)) (C := []) rfl trivial ?_
  have hk : ∀ j, 6 ≤ j → mu_i H 80 j = mu_i H 80 j := (fun j hj => by rfl)
  refine mw_sub (L' := [(1, .inl (0 : Int32)), (0, .inr (.inr (some 80)))]) (by simp) ?_
  refine mw_down (α := Int32 × mu_H) (fun s => (2, [(1, .inl s.1), (0, .inr (.inr (some 80)))], [], s.2)) (fun s => ps_pot m s.2) (fun s => (ps m s.2) ∧ (pt m B H s.2) ∧ (∀ j, 6 ≤ j → mu_i s.2 80 j = mu_i H 80 j) ∧ (ps_pot m s.2 ≤ ps_pot m H) ∧ (mu_i s.2 80 4 < 114) ∧ (kq (ab m H) (ab m s.2))) (fun s hs ih => ?_) ((0 : Int32), H) ⟨h, (pt.refl m B H), hk, (show ps_pot m H ≤ ps_pot m H from by omega), (show mu_i H 80 4 < 114 from (show mu_i H 80 4 < 114 from (show (mu_i H 80 4) < 114 from hk0))), (show kq (ab m H) (ab m H) from ⟨hc0, rfl, rfl⟩)⟩
  obtain ⟨x, Hs⟩ := s
  obtain ⟨hps, hts, his, hbs, hkd, hcs⟩ := hs
  have hps : ps m Hs := hps
  have hts : pt m B H Hs := hts
  have his : ∀ j, 6 ≤ j → mu_i Hs 80 j = mu_i H 80 j := his
  have hbs : ps_pot m Hs ≤ ps_pot m H := hbs
  have hkd : mu_i Hs 80 4 < 114 := hkd
  have hcs : kq (ab m H) (ab m Hs) := hcs
  show mu_W _ _ (2, [(1, .inl x), (0, .inr (.inr (some 80)))], [], Hs) _
  refine mw_go mu_g170 (k := 2) (f1 := (5, [(1, .inl x), (0, .inr (.inr (some 80)))], [.inl (65536 : Int32), .inl x], Hs)) (C := []) rfl trivial ?_
  refine mw_if (P := x < (65536 : Int32)) (a := 8) (b := 59) (fun _ => rfl) trivial (fun h1 => ?_) (fun h1 => ?_)
  · -- 8: x < (65536 : Int32)
    refine mw_go mu_g170 (k := 1) (f1 := (9, [(1, .inl x), (0, .inr (.inr (some 80)))], [.inr (.inr (some 80))], Hs)) (C := []) rfl trivial ?_
    refine mw_cV (fun _ => rfl) (show mu_is Hs (some 80) 7 from hps.1.is rfl) (pb_adv (d := (d + 1)) (B := B) hps) (fun H2 q2 => ?_)
    obtain ⟨⟨hp2, qt2, qk2, qb2, qc2⟩, qa2⟩ := q2
    have ht2 := hts.trans qt2
    have qs2 : gi_sz H2 89 = gi_sz Hs 89 := qk2.2
    have ha2 : ab m H2 = (ab m Hs) := qa2
    have qd2 := qc2 (show mu_i Hs 80 4 < 114 from (show (mu_i Hs 80 4) < 114 from hkd))
    refine mw_go mu_g170 (k := 2) (f1 := (16, [(1, .inl x), (0, .inr (.inr (some 80)))], [.inr (.inr (mu_r H2 80 2))], H2)) (C := [mu_is H2 (some 80) 7]) rfl (show mu_is H2 (some 80) 7 from hp2.1.is rfl) ?_
    rw [hp2.m80]
    refine mw_go mu_g170 (k := 1) (f1 := (19, [(1, .inl x), (0, .inr (.inr (some 80)))], [.inr (.inr (mu_r H2 m 2))], H2)) (C := [mu_is H2 (some m) 6]) rfl (show mu_is H2 (some m) 6 from hp2.im) ?_
    rw [hp2.r2]
    refine mw_go mu_g170 (k := 5) (f1 := (26, [(1, .inl x), (0, .inr (.inr (some 80)))], [.inl (0 : Int32), .inl (0 : Int32), .inl (0 : Int32), .inl (mu_i H2 80 5), .inr (.inr (some (m + 5)))], H2)) (C := [mu_is H2 (some 80) 7]) rfl (show mu_is H2 (some 80) 7 from hp2.1.is rfl) ?_
    refine mw_cI (fun _ => rfl) (show mu_is H2 (some (m + 5)) 10 from hp2.i2) (pb_put2 (d := d) (B := B) hp2 (by omega) (mu_i H2 80 5) (0 : Int32) (0 : Int32) (0 : Int32)) (fun x3 H3 q3 => ?_)
    obtain ⟨hp3, qt3, qx3, qi3, qs3, qb3, qa3⟩ := q3
    obtain rfl : x3 = nI ((ab m Hs) 2).1 := by rw [← ha2]; exact qx3
    have ht3 := ht2.trans qt3
    have ha3 : ab m H3 = (tp 2 (ab m Hs) (mu_i H2 80 5) (0 : Int32) (0 : Int32) (0 : Int32)) := qa3.trans (by rw [ha2])
    refine mw_go mu_g170 (k := 3) (f1 := (33, [(1, .inl x), (0, .inr (.inr (some 80)))], [.inl (112 : Int32), .inr (.inr (some 80))], H3)) (C := []) rfl trivial ?_
    refine mw_cI (fun _ => rfl) (show mu_is H3 (some 80) 7 from hp3.1.is rfl) (pb_take (d := d) (B := B) hp3 (112 : Int32) (by decide)) (fun x4 H4 q4 => ?_)
    rcases q4 with ⟨rfl, rfl, qe4⟩ | ⟨rfl, hp4, qt4, qk4, qb4, qe4, qa4⟩
    · -- (0 : Int32)
      refine mw_if (P := (0 : Int32) = 0) (a := 39) (b := 41) (fun _ => rfl) trivial (fun h5 => ?_) (fun h5 => absurd (by decide) h5)
      refine mw_go mu_g170 (k := 1) (f1 := (40, [(1, .inl x), (0, .inr (.inr (some 80)))], [.inl (0 : Int32)], H3)) (C := []) rfl trivial ?_
      exact mw_of (fun _ => mu_ret rfl (Or.inl rfl) ⟨_, H3, rfl, Or.inl ⟨rfl, hp3, ht3, by omega⟩⟩)
    · -- (1 : Int32)
      have ht4 := ht3.trans qt4
      have qs4 : gi_sz H4 89 = gi_sz H3 89 := qk4.2
      have ha4 : ab m H4 = (tp 2 (ab m Hs) (mu_i H2 80 5) (0 : Int32) (0 : Int32) (0 : Int32)) := qa4.trans (by rw [ha3])
      refine mw_if (P := (1 : Int32) = 0) (a := 39) (b := 41) (fun _ => rfl) trivial (fun h6 => absurd h6 (by decide)) (fun h6 => ?_)
      refine mw_go mu_g170 (k := 3) (f1 := (47, [(1, .inl x), (0, .inr (.inr (some 80)))], [.inl (70 : Int32), .inl (mu_i H4 80 4)], H4)) (C := [mu_is H4 (some 80) 7]) rfl (show mu_is H4 (some 80) 7 from hp4.1.is rfl) ?_
      refine mw_if (P := (mu_i H4 80 4) = (70 : Int32)) (a := 53) (b := 50) (fun _ => rfl) trivial (fun h7 => ?_) (fun h7 => ?_)
      · -- 53: (mu_i H4 80 4) = (70 : Int32)
        refine mw_go mu_g170 (k := 2) (f1 := (2, [(1, .inl (x + 1)), (0, .inr (.inr (some 80)))], [], H4)) (C := []) rfl trivial ?_
        have hk : ∀ j, 6 ≤ j → mu_i H4 80 j = mu_i H 80 j := (fun j hj => by rw [qk4.1 j (by omega)]; rw [qi3]; rw [qk2.1 j (by omega)]; rw [his j (by omega)])
        exact mw_sub (by simp) (ih ((x + 1), H4) ⟨hp4, ht4, hk, (show ps_pot m H4 ≤ ps_pot m H from by omega), (show mu_i H4 80 4 < 114 from (show mu_i H4 80 4 < 114 from (show (mu_i H4 80 4) < 114 from (by rw [h7]; decide)))), (show kq (ab m H) (ab m H4) from (by rw [ha4]; exact hcs.param))⟩ (by show ps_pot m H4 < ps_pot m Hs; omega))
      · -- 50: not (mu_i H4 80 4) = (70 : Int32)
        refine mw_go mu_g170 (k := 3) (f1 := (62, [(1, .inl x), (0, .inr (.inr (some 80)))], [.inl (65 : Int32), .inr (.inr (some 80))], H4)) (C := []) rfl trivial ?_
        refine mw_cI (fun _ => rfl) (show mu_is H4 (some 80) 7 from hp4.1.is rfl) (pb_take (d := d) (B := B) hp4 (65 : Int32) (by decide)) (fun x8 H8 q8 => ?_)
        rcases q8 with ⟨rfl, rfl, qe8⟩ | ⟨rfl, hp8, qt8, qk8, qb8, qe8, qa8⟩
        · -- (0 : Int32)
          exact mw_of (fun _ => mu_ret rfl (Or.inl rfl) ⟨_, H4, rfl, Or.inl ⟨rfl, hp4, ht4, by omega⟩⟩)
        · -- (1 : Int32)
          have ht8 := ht4.trans qt8
          have qs8 : gi_sz H8 89 = gi_sz H4 89 := qk8.2
          have ha8 : ab m H8 = (tp 2 (ab m Hs) (mu_i H2 80 5) (0 : Int32) (0 : Int32) (0 : Int32)) := qa8.trans (by rw [ha4])
          exact mw_of (fun _ => mu_ret rfl (Or.inr rfl) ⟨_, H8, rfl, Or.inr ⟨rfl, hp8, ht8, by omega, (by rw [ha8]; exact hcs.param), (show ∀ j, 6 ≤ j → mu_i H8 80 j = mu_i H 80 j from (fun j hj => by rw [qk8.1 j (by omega)]; rw [qk4.1 j (by omega)]; rw [qi3]; rw [qk2.1 j (by omega)]; rw [his j (by omega)]))⟩⟩)
  · -- 59: not x < (65536 : Int32)
    refine mw_go mu_g170 (k := 2) (f1 := (62, [(1, .inl x), (0, .inr (.inr (some 80)))], [.inl (65 : Int32), .inr (.inr (some 80))], Hs)) (C := []) rfl trivial ?_
    refine mw_cI (fun _ => rfl) (show mu_is Hs (some 80) 7 from hps.1.is rfl) (pb_take (d := d) (B := B) hps (65 : Int32) (by decide)) (fun x9 H9 q9 => ?_)
    rcases q9 with ⟨rfl, rfl, qe9⟩ | ⟨rfl, hp9, qt9, qk9, qb9, qe9, qa9⟩
    · -- (0 : Int32)
      exact mw_of (fun _ => mu_ret rfl (Or.inl rfl) ⟨_, Hs, rfl, Or.inl ⟨rfl, hps, hts, by omega⟩⟩)
    · -- (1 : Int32)
      have ht9 := hts.trans qt9
      have qs9 : gi_sz H9 89 = gi_sz Hs 89 := qk9.2
      have ha9 : ab m H9 = (ab m Hs) := qa9
      exact mw_of (fun _ => mu_ret rfl (Or.inr rfl) ⟨_, H9, rfl, Or.inr ⟨rfl, hp9, ht9, by omega, (by rw [ha9]; exact hcs), (show ∀ j, 6 ≤ j → mu_i H9 80 j = mu_i H 80 j from (fun j hj => by rw [qk9.1 j (by omega)]; rw [his j (by omega)]))⟩⟩)
theorem pb_names (h : ps m H) (hBB : B ≤ 1000000) (hB : ps_pot m H ≤ B + 98) (hc0 : CT (ab m H)) : mu_TI (mu_D (d + 4)) 151 [.inr (.inr (some 80))] H (fun x H1 => (x = 0 ∧ ps m H1 ∧ pt m B H H1 ∧ ps_pot m H1 ≤ ps_pot m H + 20) ∨ (x = 1 ∧ ps m H1 ∧ pt m B H H1 ∧ ps_pot m H1 + 7 ≤ ps_pot m H ∧ nr (ab m H) (ab m H1) ∧ (∀ j, 6 ≤ j → mu_i H1 80 j = mu_i H 80 j))) := by
  refine mu_meth (M := mu_m151) rfl rfl ?_
  refine mw_ht (mu_fn_of (show [0].Nodup by decide)) ?_
  refine mw_go mu_g151 (k := 2) (f1 := (4, [(0, .inr (.inr (some 80)))], [.inr (.inr (mu_r H 80 2))], H)) (C := [mu_is H (some 80) 7]) rfl (show mu_is H (some 80) 7 from h.1.is rfl) ?_
  rw [h.m80]
  refine mw_go mu_g151 (k := 1) (f1 := (7, [(0, .inr (.inr (some 80)))], [.inr (.inr (mu_r H m 9))], H)) (C := [mu_is H (some m) 6]) rfl (show mu_is H (some m) 6 from h.im) ?_
  rw [h.r9]
  refine mw_go mu_g151 (k := 2) (f1 := (11, [(0, .inr (.inr (some 80)))], [.inr (.inr (mu_r H 80 2)), .inr (.inr (some (m + 19)))], H)) (C := [mu_is H (some 80) 7]) rfl (show mu_is H (some 80) 7 from h.1.is rfl) ?_
  rw [h.m80]
  refine mw_go mu_g151 (k := 1) (f1 := (14, [(0, .inr (.inr (some 80)))], [.inr (.inr (mu_r H m 10)), .inr (.inr (some (m + 19)))], H)) (C := [mu_is H (some m) 6]) rfl (show mu_is H (some m) 6 from h.im) ?_
  rw [h.r10]
  refine mw_go mu_g151 (k := 4) (f1 := (20, [(0, .inr (.inr (some 80)))], [.inl (-1 : Int32), .inl (0 : Int32), .inl (0 : Int32), .inl (mu_i H (m + 21) 2), .inr (.inr (some (m + 19)))], H)) (C := [mu_is H (some (m + 21)) 10]) rfl (show mu_is H (some (m + 21)) 10 from h.i10) ?_
  refine mw_cI (fun _ => rfl) (show mu_is H (some (m + 19)) 10 from h.i9) (pb_put9 (d := d) (B := B) h (by omega) (mu_i H (m + 21) 2) (0 : Int32) (0 : Int32) (-1 : Int32)) (fun x1 H1 q1 => ?_)
  obtain ⟨hp1, qt1, qx1, qi1, qs1, qb1, qa1⟩ := q1
  obtain rfl : x1 = nI ((ab m H) 9).1 := qx1
  have ht1 := (pt.refl m B H).trans qt1
  have ha1 : ab m H1 = (tp 9 (ab m H) (nI ((ab m H) 10).1) (0 : Int32) (0 : Int32) (-1 : Int32)) := qa1.trans (by rw [(show mu_i H (m + 21) 2 = nI ((ab m H) 10).1 from sz_n h rfl (j := 10) (by decide))])
  refine mw_go mu_g151 (k := 3) (f1 := (26, [(2, .inl (0 : Int32)), (1, .inl (nI ((ab m H) 9).1)), (0, .inr (.inr (some 80)))], [], H1)) (C := []) rfl trivial ?_
  have hk : ∀ j, 6 ≤ j → mu_i H1 80 j = mu_i H 80 j := (fun j hj => by rw [qi1])
  show mu_W _ _ (26, [(2, .inl (nI 0)), (1, .inl (nI ((ab m H) 9).1)), (0, .inr (.inr (some 80)))], [], H1) _
  refine mw_sub (L' := [(2, .inl (nI 0)), (0, .inr (.inr (some 80))), (1, .inl (nI ((ab m H) 9).1))]) (by simp) ?_
  refine mw_down (α := Nat × mu_H) (fun s => (26, [(2, .inl (nI s.1)), (0, .inr (.inr (some 80))), (1, .inl (nI ((ab m H) 9).1))], [], s.2)) (fun s => ps_pot m s.2) (fun s => (ps m s.2) ∧ (pt m B H s.2) ∧ (∀ j, 6 ≤ j → mu_i s.2 80 j = mu_i H 80 j) ∧ (ps_pot m s.2 + 11 * s.1 ≤ ps_pot m H + 4) ∧ (nq (ab m H) (ab m s.2))) (fun s hs ih => ?_) (0, H1) ⟨hp1, ht1, hk, (show ps_pot m H1 + 11 * 0 ≤ ps_pot m H + 4 from by omega), (show nq (ab m H) (ab m H1) from (by rw [ha1]; exact nq_new hc0 (ab_lt h rfl (by decide))))⟩
  obtain ⟨k, Hs⟩ := s
  obtain ⟨hps, hts, his, hbs, hcs⟩ := hs
  have hps : ps m Hs := hps
  have hts : pt m B H Hs := hts
  have his : ∀ j, 6 ≤ j → mu_i Hs 80 j = mu_i H 80 j := his
  have hbs : ps_pot m Hs + 11 * k ≤ ps_pot m H + 4 := hbs
  have hcs : nq (ab m H) (ab m Hs) := hcs
  show mu_W _ _ (26, [(2, .inl (nI k)), (0, .inr (.inr (some 80))), (1, .inl (nI ((ab m H) 9).1))], [], Hs) _
  refine mw_go mu_g151 (k := 2) (f1 := (29, [(2, .inl (nI k)), (0, .inr (.inr (some 80))), (1, .inl (nI ((ab m H) 9).1))], [.inl (65536 : Int32), .inl (nI k)], Hs)) (C := []) rfl trivial ?_
  refine mw_if (P := (nI k) < (65536 : Int32)) (a := 32) (b := 83) (fun _ => rfl) trivial (fun h2 => ?_) (fun h2 => ?_)
  · -- 32: (nI k) < (65536 : Int32)
    refine mw_go mu_g151 (k := 2) (f1 := (36, [(2, .inl (nI k)), (0, .inr (.inr (some 80))), (1, .inl (nI ((ab m H) 9).1))], [.inr (.inr (mu_r Hs 80 2))], Hs)) (C := [mu_is Hs (some 80) 7]) rfl (show mu_is Hs (some 80) 7 from hps.1.is rfl) ?_
    rw [hps.m80]
    refine mw_go mu_g151 (k := 1) (f1 := (39, [(2, .inl (nI k)), (0, .inr (.inr (some 80))), (1, .inl (nI ((ab m H) 9).1))], [.inr (.inr (mu_r Hs m 10))], Hs)) (C := [mu_is Hs (some m) 6]) rfl (show mu_is Hs (some m) 6 from hps.im) ?_
    rw [hps.r10]
    refine mw_go mu_g151 (k := 5) (f1 := (46, [(2, .inl (nI k)), (0, .inr (.inr (some 80))), (1, .inl (nI ((ab m H) 9).1))], [.inl (0 : Int32), .inl (0 : Int32), .inl (0 : Int32), .inl (mu_i Hs 80 5), .inr (.inr (some (m + 21)))], Hs)) (C := [mu_is Hs (some 80) 7]) rfl (show mu_is Hs (some 80) 7 from hps.1.is rfl) ?_
    refine mw_cI (fun _ => rfl) (show mu_is Hs (some (m + 21)) 10 from hps.i10) (pb_put10 (d := d) (B := B) hps (by omega) (mu_i Hs 80 5) (0 : Int32) (0 : Int32) (0 : Int32)) (fun x3 H3 q3 => ?_)
    obtain ⟨hp3, qt3, qx3, qi3, qs3, qb3, qa3⟩ := q3
    obtain rfl : x3 = nI ((ab m Hs) 10).1 := qx3
    have ht3 := hts.trans qt3
    have ha3 : ab m H3 = (tp 10 (ab m Hs) (mu_i Hs 80 5) (0 : Int32) (0 : Int32) (0 : Int32)) := qa3
    refine mw_go mu_g151 (k := 3) (f1 := (53, [(2, .inl (nI k)), (0, .inr (.inr (some 80))), (1, .inl (nI ((ab m H) 9).1))], [.inl (112 : Int32), .inr (.inr (some 80))], H3)) (C := []) rfl trivial ?_
    refine mw_cI (fun _ => rfl) (show mu_is H3 (some 80) 7 from hp3.1.is rfl) (pb_take (d := d) (B := B) hp3 (112 : Int32) (by decide)) (fun x4 H4 q4 => ?_)
    rcases q4 with ⟨rfl, rfl, qe4⟩ | ⟨rfl, hp4, qt4, qk4, qb4, qe4, qa4⟩
    · -- (0 : Int32)
      refine mw_if (P := (0 : Int32) = 0) (a := 59) (b := 61) (fun _ => rfl) trivial (fun h5 => ?_) (fun h5 => absurd (by decide) h5)
      refine mw_go mu_g151 (k := 1) (f1 := (60, [(2, .inl (nI k)), (0, .inr (.inr (some 80))), (1, .inl (nI ((ab m H) 9).1))], [.inl (0 : Int32)], H3)) (C := []) rfl trivial ?_
      exact mw_of (fun _ => mu_ret rfl (Or.inl rfl) ⟨_, H3, rfl, Or.inl ⟨rfl, hp3, ht3, by omega⟩⟩)
    · -- (1 : Int32)
      have ht4 := ht3.trans qt4
      have qs4 : gi_sz H4 89 = gi_sz H3 89 := qk4.2
      have ha4 : ab m H4 = (tp 10 (ab m Hs) (mu_i Hs 80 5) (0 : Int32) (0 : Int32) (0 : Int32)) := qa4.trans (by rw [ha3])
      refine mw_if (P := (1 : Int32) = 0) (a := 59) (b := 61) (fun _ => rfl) trivial (fun h6 => absurd h6 (by decide)) (fun h6 => ?_)
      refine mw_go mu_g151 (k := 3) (f1 := (67, [(2, .inl (nI k)), (0, .inr (.inr (some 80))), (1, .inl (nI ((ab m H) 9).1))], [.inl (73 : Int32), .inl (mu_i H4 80 4)], H4)) (C := [mu_is H4 (some 80) 7]) rfl (show mu_is H4 (some 80) 7 from hp4.1.is rfl) ?_
      refine mw_if (P := (mu_i H4 80 4) = (73 : Int32)) (a := 73) (b := 70) (fun _ => rfl) trivial (fun h7 => ?_) (fun h7 => ?_)
      · -- 73: (mu_i H4 80 4) = (73 : Int32)
        refine mw_go mu_g151 (k := 1) (f1 := (74, [(2, .inl (nI k)), (0, .inr (.inr (some 80))), (1, .inl (nI ((ab m H) 9).1))], [.inr (.inr (some 80))], H4)) (C := []) rfl trivial ?_
        refine mw_cV (fun _ => rfl) (show mu_is H4 (some 80) 7 from hp4.1.is rfl) (pb_adv (d := (d + 1)) (B := B) hp4) (fun H8 q8 => ?_)
        obtain ⟨⟨hp8, qt8, qk8, qb8, qc8⟩, qa8⟩ := q8
        have ht8 := ht4.trans qt8
        have qs8 : gi_sz H8 89 = gi_sz H4 89 := qk8.2
        have ha8 : ab m H8 = (tp 10 (ab m Hs) (mu_i Hs 80 5) (0 : Int32) (0 : Int32) (0 : Int32)) := qa8.trans (by rw [ha4])
        have qd8 := qc8 (show mu_i H4 80 4 < 114 from (show (mu_i H4 80 4) < 114 from (by rw [h7]; decide)))
        refine mw_go mu_g151 (k := 2) (f1 := (26, [(2, .inl ((nI k) + 1)), (0, .inr (.inr (some 80))), (1, .inl (nI ((ab m H) 9).1))], [], H8)) (C := []) rfl trivial ?_
        have hk : ∀ j, 6 ≤ j → mu_i H8 80 j = mu_i H 80 j := (fun j hj => by rw [qk8.1 j (by omega)]; rw [qk4.1 j (by omega)]; rw [qi3]; rw [his j (by omega)])
        rw [nI_1]
        exact mw_sub (by simp) (ih (k + 1, H8) ⟨hp8, ht8, hk, (show ps_pot m H8 + 11 * (k + 1) ≤ ps_pot m H + 4 from by omega), (show nq (ab m H) (ab m H8) from (by rw [ha8]; exact hcs.step))⟩ (by show ps_pot m H8 < ps_pot m Hs; omega))
      · -- 70: not (mu_i H4 80 4) = (73 : Int32)
        refine mw_go mu_g151 (k := 3) (f1 := (87, [(2, .inl (nI k)), (0, .inr (.inr (some 80))), (1, .inl (nI ((ab m H) 9).1))], [.inr (.inr (mu_r H4 80 2))], H4)) (C := [mu_is H4 (some 80) 7]) rfl (show mu_is H4 (some 80) 7 from hp4.1.is rfl) ?_
        rw [hp4.m80]
        refine mw_go mu_g151 (k := 1) (f1 := (90, [(2, .inl (nI k)), (0, .inr (.inr (some 80))), (1, .inl (nI ((ab m H) 9).1))], [.inr (.inr (mu_r H4 m 9))], H4)) (C := [mu_is H4 (some m) 6]) rfl (show mu_is H4 (some m) 6 from hp4.im) ?_
        rw [hp4.r9]
        refine mw_go mu_g151 (k := 4) (f1 := (96, [(2, .inl (nI k)), (0, .inr (.inr (some 80))), (1, .inl (nI ((ab m H) 9).1))], [.inr (.inr (mu_r H4 80 2)), .inl (1 : Int32), .inl (nI ((ab m H) 9).1), .inr (.inr (some (m + 19)))], H4)) (C := [mu_is H4 (some 80) 7]) rfl (show mu_is H4 (some 80) 7 from hp4.1.is rfl) ?_
        rw [hp4.m80]
        refine mw_go mu_g151 (k := 1) (f1 := (99, [(2, .inl (nI k)), (0, .inr (.inr (some 80))), (1, .inl (nI ((ab m H) 9).1))], [.inr (.inr (mu_r H4 m 10)), .inl (1 : Int32), .inl (nI ((ab m H) 9).1), .inr (.inr (some (m + 19)))], H4)) (C := [mu_is H4 (some m) 6]) rfl (show mu_is H4 (some m) 6 from hp4.im) ?_
        rw [hp4.r10]
        refine mw_go mu_g151 (k := 3) (f1 := (106, [(2, .inl (nI k)), (0, .inr (.inr (some 80))), (1, .inl (nI ((ab m H) 9).1))], [.inr (.inr (mu_r H4 80 2)), .inl (mu_i H4 (m + 21) 2), .inl (1 : Int32), .inl (nI ((ab m H) 9).1), .inr (.inr (some (m + 19)))], H4)) (C := [mu_is H4 (some (m + 21)) 10, mu_is H4 (some 80) 7]) rfl (show (mu_is H4 (some (m + 21)) 10) ∧ (mu_is H4 (some 80) 7) from ⟨hp4.i10, hp4.1.is rfl⟩) ?_
        rw [hp4.m80]
        refine mw_go mu_g151 (k := 1) (f1 := (109, [(2, .inl (nI k)), (0, .inr (.inr (some 80))), (1, .inl (nI ((ab m H) 9).1))], [.inr (.inr (mu_r H4 m 9)), .inl (mu_i H4 (m + 21) 2), .inl (1 : Int32), .inl (nI ((ab m H) 9).1), .inr (.inr (some (m + 19)))], H4)) (C := [mu_is H4 (some m) 6]) rfl (show mu_is H4 (some m) 6 from hp4.im) ?_
        rw [hp4.r9]
        refine mw_go mu_g151 (k := 2) (f1 := (111, [(2, .inl (nI k)), (0, .inr (.inr (some 80))), (1, .inl (nI ((ab m H) 9).1))], [.inl (0 : Int32), .inl (nI ((ab m H) 9).1), .inr (.inr (some (m + 19))), .inl (mu_i H4 (m + 21) 2), .inl (1 : Int32), .inl (nI ((ab m H) 9).1), .inr (.inr (some (m + 19)))], H4)) (C := []) rfl trivial ?_
        refine mw_cIe (fun _ => rfl) (show mu_is H4 (some (m + 19)) 10 from hp4.i9) (gi_get_ok (d := (d + 2)) (H := H4) hp4.1 hp4.w9 (nI ((ab m H) 9).1) (j := 0) (by decide)) ?_
        refine mw_go mu_g151 (k := 1) (f1 := (115, [(2, .inl (nI k)), (0, .inr (.inr (some 80))), (1, .inl (nI ((ab m H) 9).1))], [.inl ((mu_i H4 (m + 21) 2) - (rw_get H4 (m + 19) 4 (gi_sz H4 (m + 19)) (nI ((ab m H) 9).1) 0)), .inl (1 : Int32), .inl (nI ((ab m H) 9).1), .inr (.inr (some (m + 19)))], H4)) (C := []) rfl trivial ?_
        refine mw_cV (fun _ => rfl) (show mu_is H4 (some (m + 19)) 10 from hp4.i9) (gi_set_ok (d := (d + 2)) hp4.1 hp4.w9 (nI ((ab m H) 9).1) ((mu_i H4 (m + 21) 2) - (rw_get H4 (m + 19) 4 (gi_sz H4 (m + 19)) (nI ((ab m H) 9).1) 0)) (j := 1) (by decide)) (fun H10 q10 => ?_)
        have qa10 : ab m H10 = tx 9 (ab m H4) (nI ((ab m H) 9).1) 1 ((mu_i H4 (m + 21) 2) - (rw_get H4 (m + 19) 4 (gi_sz H4 (m + 19)) (nI ((ab m H) 9).1) 0)) := by rw [q10]; exact ab_set hp4.1 hp4.2.1 (j := 9) (by decide)
        obtain ⟨hp10, qt10, qi10, qs10, qb10⟩ := ps_set (B := B) hp4 (j := 1) (row := (nI ((ab m H) 9).1)) (v := ((mu_i H4 (m + 21) 2) - (rw_get H4 (m + 19) 4 (gi_sz H4 (m + 19)) (nI ((ab m H) 9).1) 0))) hp4.w9 (by omega)
        rw [← q10] at hp10 qt10 qi10 qs10 qb10
        have ht10 := ht4.trans qt10
        have hn10 : nq (ab m H) (ab m H4) := (by rw [ha4]; exact hcs.step)
        have ha10 : ab m H10 = (tx 9 (ab m H4) (nI (ab m H 9).1) 1 (nI ((ab m H4 10).1 - (ab m H 10).1))) := qa10.trans (by rw [show ((mu_i H4 (m + 21) 2) - (rw_get H4 (m + 19) 4 (gi_sz H4 (m + 19)) (nI ((ab m H) 9).1) 0)) = nI ((ab m H4 10).1 - (ab m H 10).1) from nq.val hp4 hn10 (ab_lt h rfl (by decide))])
        refine mw_go mu_g151 (k := 1) (f1 := (119, [(2, .inl (nI k)), (0, .inr (.inr (some 80))), (1, .inl (nI ((ab m H) 9).1))], [.inl (1 : Int32)], H10)) (C := []) rfl trivial ?_
        exact mw_of (fun _ => mu_ret rfl (Or.inr rfl) ⟨_, H10, rfl, Or.inr ⟨rfl, hp10, ht10, by omega, (by rw [ha10]; exact hn10.fin (ab_lt h rfl (by decide))), (show ∀ j, 6 ≤ j → mu_i H10 80 j = mu_i H 80 j from (fun j hj => by rw [qi10]; rw [qk4.1 j (by omega)]; rw [qi3]; rw [his j (by omega)]))⟩⟩)
  · -- 83: not (nI k) < (65536 : Int32)
    have hk6 : 65536 ≤ k := Nat.le_of_not_lt (fun z => h2 ((nI_ltI (b := 65536) (by omega) (by decide)).mpr z))
    refine mw_go mu_g151 (k := 2) (f1 := (87, [(2, .inl (nI k)), (0, .inr (.inr (some 80))), (1, .inl (nI ((ab m H) 9).1))], [.inr (.inr (mu_r Hs 80 2))], Hs)) (C := [mu_is Hs (some 80) 7]) rfl (show mu_is Hs (some 80) 7 from hps.1.is rfl) ?_
    rw [hps.m80]
    refine mw_go mu_g151 (k := 1) (f1 := (90, [(2, .inl (nI k)), (0, .inr (.inr (some 80))), (1, .inl (nI ((ab m H) 9).1))], [.inr (.inr (mu_r Hs m 9))], Hs)) (C := [mu_is Hs (some m) 6]) rfl (show mu_is Hs (some m) 6 from hps.im) ?_
    rw [hps.r9]
    refine mw_go mu_g151 (k := 4) (f1 := (96, [(2, .inl (nI k)), (0, .inr (.inr (some 80))), (1, .inl (nI ((ab m H) 9).1))], [.inr (.inr (mu_r Hs 80 2)), .inl (1 : Int32), .inl (nI ((ab m H) 9).1), .inr (.inr (some (m + 19)))], Hs)) (C := [mu_is Hs (some 80) 7]) rfl (show mu_is Hs (some 80) 7 from hps.1.is rfl) ?_
    rw [hps.m80]
    refine mw_go mu_g151 (k := 1) (f1 := (99, [(2, .inl (nI k)), (0, .inr (.inr (some 80))), (1, .inl (nI ((ab m H) 9).1))], [.inr (.inr (mu_r Hs m 10)), .inl (1 : Int32), .inl (nI ((ab m H) 9).1), .inr (.inr (some (m + 19)))], Hs)) (C := [mu_is Hs (some m) 6]) rfl (show mu_is Hs (some m) 6 from hps.im) ?_
    rw [hps.r10]
    refine mw_go mu_g151 (k := 3) (f1 := (106, [(2, .inl (nI k)), (0, .inr (.inr (some 80))), (1, .inl (nI ((ab m H) 9).1))], [.inr (.inr (mu_r Hs 80 2)), .inl (mu_i Hs (m + 21) 2), .inl (1 : Int32), .inl (nI ((ab m H) 9).1), .inr (.inr (some (m + 19)))], Hs)) (C := [mu_is Hs (some (m + 21)) 10, mu_is Hs (some 80) 7]) rfl (show (mu_is Hs (some (m + 21)) 10) ∧ (mu_is Hs (some 80) 7) from ⟨hps.i10, hps.1.is rfl⟩) ?_
    rw [hps.m80]
    refine mw_go mu_g151 (k := 1) (f1 := (109, [(2, .inl (nI k)), (0, .inr (.inr (some 80))), (1, .inl (nI ((ab m H) 9).1))], [.inr (.inr (mu_r Hs m 9)), .inl (mu_i Hs (m + 21) 2), .inl (1 : Int32), .inl (nI ((ab m H) 9).1), .inr (.inr (some (m + 19)))], Hs)) (C := [mu_is Hs (some m) 6]) rfl (show mu_is Hs (some m) 6 from hps.im) ?_
    rw [hps.r9]
    refine mw_go mu_g151 (k := 2) (f1 := (111, [(2, .inl (nI k)), (0, .inr (.inr (some 80))), (1, .inl (nI ((ab m H) 9).1))], [.inl (0 : Int32), .inl (nI ((ab m H) 9).1), .inr (.inr (some (m + 19))), .inl (mu_i Hs (m + 21) 2), .inl (1 : Int32), .inl (nI ((ab m H) 9).1), .inr (.inr (some (m + 19)))], Hs)) (C := []) rfl trivial ?_
    refine mw_cIe (fun _ => rfl) (show mu_is Hs (some (m + 19)) 10 from hps.i9) (gi_get_ok (d := (d + 2)) (H := Hs) hps.1 hps.w9 (nI ((ab m H) 9).1) (j := 0) (by decide)) ?_
    refine mw_go mu_g151 (k := 1) (f1 := (115, [(2, .inl (nI k)), (0, .inr (.inr (some 80))), (1, .inl (nI ((ab m H) 9).1))], [.inl ((mu_i Hs (m + 21) 2) - (rw_get Hs (m + 19) 4 (gi_sz Hs (m + 19)) (nI ((ab m H) 9).1) 0)), .inl (1 : Int32), .inl (nI ((ab m H) 9).1), .inr (.inr (some (m + 19)))], Hs)) (C := []) rfl trivial ?_
    refine mw_cV (fun _ => rfl) (show mu_is Hs (some (m + 19)) 10 from hps.i9) (gi_set_ok (d := (d + 2)) hps.1 hps.w9 (nI ((ab m H) 9).1) ((mu_i Hs (m + 21) 2) - (rw_get Hs (m + 19) 4 (gi_sz Hs (m + 19)) (nI ((ab m H) 9).1) 0)) (j := 1) (by decide)) (fun H12 q12 => ?_)
    have qa12 : ab m H12 = tx 9 (ab m Hs) (nI ((ab m H) 9).1) 1 ((mu_i Hs (m + 21) 2) - (rw_get Hs (m + 19) 4 (gi_sz Hs (m + 19)) (nI ((ab m H) 9).1) 0)) := by rw [q12]; exact ab_set hps.1 hps.2.1 (j := 9) (by decide)
    obtain ⟨hp12, qt12, qi12, qs12, qb12⟩ := ps_set (B := B) hps (j := 1) (row := (nI ((ab m H) 9).1)) (v := ((mu_i Hs (m + 21) 2) - (rw_get Hs (m + 19) 4 (gi_sz Hs (m + 19)) (nI ((ab m H) 9).1) 0))) hps.w9 (by omega)
    rw [← q12] at hp12 qt12 qi12 qs12 qb12
    have ht12 := hts.trans qt12
    have hn12 : nq (ab m H) (ab m Hs) := hcs
    have ha12 : ab m H12 = (tx 9 (ab m Hs) (nI (ab m H 9).1) 1 (nI ((ab m Hs 10).1 - (ab m H 10).1))) := qa12.trans (by rw [show ((mu_i Hs (m + 21) 2) - (rw_get Hs (m + 19) 4 (gi_sz Hs (m + 19)) (nI ((ab m H) 9).1) 0)) = nI ((ab m Hs 10).1 - (ab m H 10).1) from nq.val hps hn12 (ab_lt h rfl (by decide))])
    refine mw_go mu_g151 (k := 1) (f1 := (119, [(2, .inl (nI k)), (0, .inr (.inr (some 80))), (1, .inl (nI ((ab m H) 9).1))], [.inl (1 : Int32)], H12)) (C := []) rfl trivial ?_
    exact mw_of (fun _ => mu_ret rfl (Or.inr rfl) ⟨_, H12, rfl, Or.inr ⟨rfl, hp12, ht12, by omega, (by rw [ha12]; exact hn12.fin (ab_lt h rfl (by decide))), (show ∀ j, 6 ≤ j → mu_i H12 80 j = mu_i H 80 j from (fun j hj => by rw [qi12]; rw [his j (by omega)]))⟩⟩)
theorem pb_bound (h : ps m H) (hBB : B ≤ 1000000) (hB : ps_pot m H ≤ B + 98) {v c : Nat} (hc : c < 2147483648) (hc1 : c ≠ 1) (hc0 : CT (ab m H)) (hl : lastv (ab m H) v 1) : mu_TI (mu_D (d + 4)) 169 [.inr (.inr (some 80)), .inl (nI v), .inl (nI c)] H (fun x H1 => (x = 0 ∧ ps m H1 ∧ pt m B H H1 ∧ ps_pot m H1 ≤ ps_pot m H + 20) ∨ (x = 1 ∧ ps m H1 ∧ pt m B H H1 ∧ ps_pot m H1 + 12 ≤ ps_pot m H ∧ (CT (ab m H1) ∧ lastv (ab m H1) v 1 ∧ ab m H1 1 = ab m H 1 ∧ ab m H1 11 = ab m H 11) ∧ (∀ j, 6 ≤ j → mu_i H1 80 j = mu_i H 80 j))) := by
  refine mu_meth (M := mu_m169) rfl rfl ?_
  refine mw_ht (mu_fn_of (show [0, 1, 2].Nodup by decide)) ?_
  refine mw_go mu_g169 (k := 3) (f1 := (6, [(0, .inr (.inr (some 80))), (1, .inl (nI v)), (2, .inl (nI c))], [.inl (81 : Int32), .inl (mu_i H 80 4)], H)) (C := [mu_is H (some 80) 7]) rfl (show mu_is H (some 80) 7 from h.1.is rfl) ?_
  refine mw_if (P := (mu_i H 80 4) = (81 : Int32)) (a := 9) (b := 13) (fun _ => rfl) trivial (fun h1 => ?_) (fun h1 => ?_)
  · -- 9: (mu_i H 80 4) = (81 : Int32)
    refine mw_go mu_g169 (k := 4) (f1 := (16, [(3, .inl (1 : Int32)), (0, .inr (.inr (some 80))), (1, .inl (nI v)), (2, .inl (nI c))], [.inl (1 : Int32)], H)) (C := []) rfl trivial ?_
    refine mw_if (P := (1 : Int32) = 0) (a := 23) (b := 19) (fun _ => rfl) trivial (fun h2 => absurd h2 (by decide)) (fun h2 => ?_)
    refine mw_go mu_g169 (k := 1) (f1 := (20, [(3, .inl (1 : Int32)), (0, .inr (.inr (some 80))), (1, .inl (nI v)), (2, .inl (nI c))], [.inr (.inr (some 80))], H)) (C := []) rfl trivial ?_
    refine mw_cV (fun _ => rfl) (show mu_is H (some 80) 7 from h.1.is rfl) (pb_adv (d := (d + 1)) (B := B) h) (fun H3 q3 => ?_)
    obtain ⟨⟨hp3, qt3, qk3, qb3, qc3⟩, qa3⟩ := q3
    have ht3 := (pt.refl m B H).trans qt3
    have qs3 : gi_sz H3 89 = gi_sz H 89 := qk3.2
    have ha3 : ab m H3 = (ab m H) := qa3
    have qd3 := qc3 (show mu_i H 80 4 < 114 from (show (mu_i H 80 4) < 114 from (by rw [h1]; decide)))
    refine mw_go mu_g169 (k := 2) (f1 := (27, [(3, .inl (1 : Int32)), (0, .inr (.inr (some 80))), (1, .inl (nI v)), (2, .inl (nI c))], [.inr (.inr (mu_r H3 80 2))], H3)) (C := [mu_is H3 (some 80) 7]) rfl (show mu_is H3 (some 80) 7 from hp3.1.is rfl) ?_
    rw [hp3.m80]
    refine mw_go mu_g169 (k := 1) (f1 := (30, [(3, .inl (1 : Int32)), (0, .inr (.inr (some 80))), (1, .inl (nI v)), (2, .inl (nI c))], [.inr (.inr (mu_r H3 m 3))], H3)) (C := [mu_is H3 (some m) 6]) rfl (show mu_is H3 (some m) 6 from hp3.im) ?_
    rw [hp3.r3]
    refine mw_go mu_g169 (k := 3) (f1 := (33, [(3, .inl (1 : Int32)), (0, .inr (.inr (some 80))), (1, .inl (nI v)), (2, .inl (nI c))], [.inl (1 : Int32), .inl (nI c), .inl (nI v), .inr (.inr (some (m + 7)))], H3)) (C := []) rfl trivial ?_
    refine mw_if (P := (1 : Int32) = 0) (a := 44) (b := 36) (fun _ => rfl) trivial (fun h4 => absurd h4 (by decide)) (fun h4 => ?_)
    refine mw_go mu_g169 (k := 4) (f1 := (48, [(3, .inl (1 : Int32)), (0, .inr (.inr (some 80))), (1, .inl (nI v)), (2, .inl (nI c))], [.inl (-(mu_i H3 80 5)), .inl (nI c), .inl (nI v), .inr (.inr (some (m + 7)))], H3)) (C := [mu_is H3 (some 80) 7]) rfl (show mu_is H3 (some 80) 7 from hp3.1.is rfl) ?_
    refine mw_cV (fun _ => rfl) (show mu_is H3 (some (m + 7)) 10 from hp3.i3) (gi_set_ok (d := (d + 2)) hp3.1 hp3.w3 (nI v) (-(mu_i H3 80 5)) (j := c) (by omega)) (fun H5 q5 => ?_)
    have qa5 : ab m H5 = tx 3 (ab m H3) (nI v) c (-(mu_i H3 80 5)) := by rw [q5]; exact ab_set hp3.1 hp3.2.1 (j := 3) (by decide)
    obtain ⟨hp5, qt5, qi5, qs5, qb5⟩ := ps_set (B := B) hp3 (j := c) (row := (nI v)) (v := (-(mu_i H3 80 5))) hp3.w3 (by omega)
    rw [← q5] at hp5 qt5 qi5 qs5 qb5
    have ht5 := ht3.trans qt5
    have ha5 : ab m H5 = (tx 3 (ab m H) (nI v) c (-(mu_i H3 80 5))) := qa5.trans (by rw [ha3])
    refine mw_go mu_g169 (k := 2) (f1 := (54, [(3, .inl (1 : Int32)), (0, .inr (.inr (some 80))), (1, .inl (nI v)), (2, .inl (nI c))], [.inl (113 : Int32), .inr (.inr (some 80))], H5)) (C := []) rfl trivial ?_
    refine mw_cI (fun _ => rfl) (show mu_is H5 (some 80) 7 from hp5.1.is rfl) (pb_take (d := d) (B := B) hp5 (113 : Int32) (by decide)) (fun x6 H6 q6 => ?_)
    rcases q6 with ⟨rfl, rfl, qe6⟩ | ⟨rfl, hp6, qt6, qk6, qb6, qe6, qa6⟩
    · -- (0 : Int32)
      exact mw_of (fun _ => mu_ret rfl (Or.inl rfl) ⟨_, H5, rfl, Or.inl ⟨rfl, hp5, ht5, by omega⟩⟩)
    · -- (1 : Int32)
      have ht6 := ht5.trans qt6
      have qs6 : gi_sz H6 89 = gi_sz H5 89 := qk6.2
      have ha6 : ab m H6 = (tx 3 (ab m H) (nI v) c (-(mu_i H3 80 5))) := qa6.trans (by rw [ha5])
      exact mw_of (fun _ => mu_ret rfl (Or.inr rfl) ⟨_, H6, rfl, Or.inr ⟨rfl, hp6, ht6, by omega, (show CT (ab m H6) ∧ lastv (ab m H6) v 1 ∧ ab m H6 1 = ab m H 1 ∧ ab m H6 11 = ab m H 11 from by rw [ha6]; exact ⟨(hc0.vany hl hc1).1, (hc0.vany hl hc1).2, rfl, rfl⟩), (show ∀ j, 6 ≤ j → mu_i H6 80 j = mu_i H 80 j from (fun j hj => by rw [qk6.1 j (by omega)]; rw [qi5]; rw [qk3.1 j (by omega)]))⟩⟩)
  · -- 13: not (mu_i H 80 4) = (81 : Int32)
    refine mw_go mu_g169 (k := 3) (f1 := (16, [(3, .inl (0 : Int32)), (0, .inr (.inr (some 80))), (1, .inl (nI v)), (2, .inl (nI c))], [.inl (0 : Int32)], H)) (C := []) rfl trivial ?_
    refine mw_if (P := (0 : Int32) = 0) (a := 23) (b := 19) (fun _ => rfl) trivial (fun h7 => ?_) (fun h7 => absurd (by decide) h7)
    refine mw_go mu_g169 (k := 2) (f1 := (27, [(3, .inl (0 : Int32)), (0, .inr (.inr (some 80))), (1, .inl (nI v)), (2, .inl (nI c))], [.inr (.inr (mu_r H 80 2))], H)) (C := [mu_is H (some 80) 7]) rfl (show mu_is H (some 80) 7 from h.1.is rfl) ?_
    rw [h.m80]
    refine mw_go mu_g169 (k := 1) (f1 := (30, [(3, .inl (0 : Int32)), (0, .inr (.inr (some 80))), (1, .inl (nI v)), (2, .inl (nI c))], [.inr (.inr (mu_r H m 3))], H)) (C := [mu_is H (some m) 6]) rfl (show mu_is H (some m) 6 from h.im) ?_
    rw [h.r3]
    refine mw_go mu_g169 (k := 3) (f1 := (33, [(3, .inl (0 : Int32)), (0, .inr (.inr (some 80))), (1, .inl (nI v)), (2, .inl (nI c))], [.inl (0 : Int32), .inl (nI c), .inl (nI v), .inr (.inr (some (m + 7)))], H)) (C := []) rfl trivial ?_
    refine mw_if (P := (0 : Int32) = 0) (a := 44) (b := 36) (fun _ => rfl) trivial (fun h8 => ?_) (fun h8 => absurd (by decide) h8)
    refine mw_go mu_g169 (k := 2) (f1 := (48, [(3, .inl (0 : Int32)), (0, .inr (.inr (some 80))), (1, .inl (nI v)), (2, .inl (nI c))], [.inl (mu_i H 80 5), .inl (nI c), .inl (nI v), .inr (.inr (some (m + 7)))], H)) (C := [mu_is H (some 80) 7]) rfl (show mu_is H (some 80) 7 from h.1.is rfl) ?_
    refine mw_cV (fun _ => rfl) (show mu_is H (some (m + 7)) 10 from h.i3) (gi_set_ok (d := (d + 2)) h.1 h.w3 (nI v) (mu_i H 80 5) (j := c) (by omega)) (fun H9 q9 => ?_)
    have qa9 : ab m H9 = tx 3 (ab m H) (nI v) c (mu_i H 80 5) := by rw [q9]; exact ab_set h.1 h.2.1 (j := 3) (by decide)
    obtain ⟨hp9, qt9, qi9, qs9, qb9⟩ := ps_set (B := B) h (j := c) (row := (nI v)) (v := (mu_i H 80 5)) h.w3 (by omega)
    rw [← q9] at hp9 qt9 qi9 qs9 qb9
    have ht9 := (pt.refl m B H).trans qt9
    have ha9 : ab m H9 = (tx 3 (ab m H) (nI v) c (mu_i H 80 5)) := qa9
    refine mw_go mu_g169 (k := 2) (f1 := (54, [(3, .inl (0 : Int32)), (0, .inr (.inr (some 80))), (1, .inl (nI v)), (2, .inl (nI c))], [.inl (113 : Int32), .inr (.inr (some 80))], H9)) (C := []) rfl trivial ?_
    refine mw_cI (fun _ => rfl) (show mu_is H9 (some 80) 7 from hp9.1.is rfl) (pb_take (d := d) (B := B) hp9 (113 : Int32) (by decide)) (fun x10 H10 q10 => ?_)
    rcases q10 with ⟨rfl, rfl, qe10⟩ | ⟨rfl, hp10, qt10, qk10, qb10, qe10, qa10⟩
    · -- (0 : Int32)
      exact mw_of (fun _ => mu_ret rfl (Or.inl rfl) ⟨_, H9, rfl, Or.inl ⟨rfl, hp9, ht9, by omega⟩⟩)
    · -- (1 : Int32)
      have ht10 := ht9.trans qt10
      have qs10 : gi_sz H10 89 = gi_sz H9 89 := qk10.2
      have ha10 : ab m H10 = (tx 3 (ab m H) (nI v) c (mu_i H 80 5)) := qa10.trans (by rw [ha9])
      exact mw_of (fun _ => mu_ret rfl (Or.inr rfl) ⟨_, H10, rfl, Or.inr ⟨rfl, hp10, ht10, by omega, (show CT (ab m H10) ∧ lastv (ab m H10) v 1 ∧ ab m H10 1 = ab m H 1 ∧ ab m H10 11 = ab m H 11 from by rw [ha10]; exact ⟨(hc0.vany hl hc1).1, (hc0.vany hl hc1).2, rfl, rfl⟩), (show ∀ j, 6 ≤ j → mu_i H10 80 j = mu_i H 80 j from (fun j hj => by rw [qk10.1 j (by omega)]; rw [qi9]))⟩⟩)
theorem pb_vals (h : ps m H) (hBB : B ≤ 1000000) (hB : ps_pot m H ≤ B + 98) {v : Nat} (hc0 : CT (ab m H)) (hl : lastv (ab m H) v 0) (hv02 : (ab m H 3).2 v 2 = 0) (hv03 : (ab m H 3).2 v 3 = 0) (hk0 : mu_i H 80 4 < 114) : mu_TI (mu_D (d + 4)) 168 [.inr (.inr (some 80)), .inl (nI v)] H (fun x H1 => (x = 0 ∧ ps m H1 ∧ pt m B H H1 ∧ ps_pot m H1 ≤ ps_pot m H + 20) ∨ (x = 1 ∧ ps m H1 ∧ pt m B H H1 ∧ ps_pot m H1 + 12 ≤ ps_pot m H ∧ kq (ab m H) (ab m H1) ∧ (∀ j, 6 ≤ j → mu_i H1 80 j = mu_i H 80 j))) := by
  refine mu_meth (M := mu_m168) rfl rfl ?_
  refine mw_ht (mu_fn_of (show [0, 1].Nodup by decide)) ?_
  refine mw_go mu_g168 (k := 2) (f1 := (4, [(0, .inr (.inr (some 80))), (1, .inl (nI v))], [.inr (.inr (mu_r H 80 2))], H)) (C := [mu_is H (some 80) 7]) rfl (show mu_is H (some 80) 7 from h.1.is rfl) ?_
  rw [h.m80]
  refine mw_go mu_g168 (k := 1) (f1 := (7, [(0, .inr (.inr (some 80))), (1, .inl (nI v))], [.inr (.inr (mu_r H m 3))], H)) (C := [mu_is H (some m) 6]) rfl (show mu_is H (some m) 6 from h.im) ?_
  rw [h.r3]
  refine mw_go mu_g168 (k := 3) (f1 := (10, [(0, .inr (.inr (some 80))), (1, .inl (nI v))], [.inl (2 : Int32), .inl (1 : Int32), .inl (nI v), .inr (.inr (some (m + 7)))], H)) (C := []) rfl trivial ?_
  refine mw_cV (fun _ => rfl) (show mu_is H (some (m + 7)) 10 from h.i3) (gi_set_ok (d := (d + 2)) h.1 h.w3 (nI v) (2 : Int32) (j := 1) (by decide)) (fun H1 q1 => ?_)
  have qa1 : ab m H1 = tx 3 (ab m H) (nI v) 1 (2 : Int32) := by rw [q1]; exact ab_set h.1 h.2.1 (j := 3) (by decide)
  obtain ⟨hp1, qt1, qi1, qs1, qb1⟩ := ps_set (B := B) h (j := 1) (row := (nI v)) (v := (2 : Int32)) h.w3 (by omega)
  rw [← q1] at hp1 qt1 qi1 qs1 qb1
  have ht1 := (pt.refl m B H).trans qt1
  have ha1 : ab m H1 = (tx 3 (ab m H) (nI v) 1 (2 : Int32)) := qa1
  refine mw_go mu_g168 (k := 2) (f1 := (17, [(0, .inr (.inr (some 80))), (1, .inl (nI v))], [.inr (.inr (mu_r H1 80 2))], H1)) (C := [mu_is H1 (some 80) 7]) rfl (show mu_is H1 (some 80) 7 from hp1.1.is rfl) ?_
  rw [hp1.m80]
  refine mw_go mu_g168 (k := 1) (f1 := (20, [(0, .inr (.inr (some 80))), (1, .inl (nI v))], [.inr (.inr (mu_r H1 m 3))], H1)) (C := [mu_is H1 (some m) 6]) rfl (show mu_is H1 (some m) 6 from hp1.im) ?_
  rw [hp1.r3]
  refine mw_go mu_g168 (k := 4) (f1 := (26, [(0, .inr (.inr (some 80))), (1, .inl (nI v))], [.inr (.inr (mu_r H1 80 2)), .inl (2 : Int32), .inl (nI v), .inr (.inr (some (m + 7)))], H1)) (C := [mu_is H1 (some 80) 7]) rfl (show mu_is H1 (some 80) 7 from hp1.1.is rfl) ?_
  rw [hp1.m80]
  refine mw_go mu_g168 (k := 1) (f1 := (29, [(0, .inr (.inr (some 80))), (1, .inl (nI v))], [.inr (.inr (mu_r H1 m 4)), .inl (2 : Int32), .inl (nI v), .inr (.inr (some (m + 7)))], H1)) (C := [mu_is H1 (some m) 6]) rfl (show mu_is H1 (some m) 6 from hp1.im) ?_
  rw [hp1.r4]
  refine mw_go mu_g168 (k := 1) (f1 := (32, [(0, .inr (.inr (some 80))), (1, .inl (nI v))], [.inl (mu_i H1 (m + 9) 2), .inl (2 : Int32), .inl (nI v), .inr (.inr (some (m + 7)))], H1)) (C := [mu_is H1 (some (m + 9)) 10]) rfl (show mu_is H1 (some (m + 9)) 10 from hp1.i4) ?_
  refine mw_cV (fun _ => rfl) (show mu_is H1 (some (m + 7)) 10 from hp1.i3) (gi_set_ok (d := (d + 2)) hp1.1 hp1.w3 (nI v) (mu_i H1 (m + 9) 2) (j := 2) (by decide)) (fun H2 q2 => ?_)
  have qa2 : ab m H2 = tx 3 (ab m H1) (nI v) 2 (mu_i H1 (m + 9) 2) := by rw [q2]; exact ab_set hp1.1 hp1.2.1 (j := 3) (by decide)
  obtain ⟨hp2, qt2, qi2, qs2, qb2⟩ := ps_set (B := B) hp1 (j := 2) (row := (nI v)) (v := (mu_i H1 (m + 9) 2)) hp1.w3 (by omega)
  rw [← q2] at hp2 qt2 qi2 qs2 qb2
  have ht2 := ht1.trans qt2
  have ha2 : ab m H2 = (tx 3 (tx 3 (ab m H) (nI v) 1 (2 : Int32)) (nI v) 2 (nI ((tx 3 (ab m H) (nI v) 1 (2 : Int32)) 4).1)) := qa2.trans (by rw [ha1, (show mu_i H1 (m + 9) 2 = nI ((tx 3 (ab m H) (nI v) 1 (2 : Int32)) 4).1 from sz_n hp1 ha1 (j := 4) (by decide))])
  refine mw_go mu_g168 (k := 2) (f1 := (37, [(2, .inl (0 : Int32)), (0, .inr (.inr (some 80))), (1, .inl (nI v))], [], H2)) (C := []) rfl trivial ?_
  have hk : ∀ j, 6 ≤ j → mu_i H2 80 j = mu_i H 80 j := (fun j hj => by rw [qi2]; rw [qi1])
  refine mw_sub (L' := [(2, .inl (0 : Int32)), (0, .inr (.inr (some 80))), (1, .inl (nI v))]) (by simp) ?_
  refine mw_down (α := Int32 × mu_H) (fun s => (37, [(2, .inl s.1), (0, .inr (.inr (some 80))), (1, .inl (nI v))], [], s.2)) (fun s => ps_pot m s.2) (fun s => (ps m s.2) ∧ (pt m B H s.2) ∧ (∀ j, 6 ≤ j → mu_i s.2 80 j = mu_i H 80 j) ∧ (ps_pot m s.2 ≤ ps_pot m H) ∧ (mu_i s.2 80 4 < 114) ∧ (vq v (ab m H) (ab m s.2))) (fun s hs ih => ?_) ((0 : Int32), H2) ⟨hp2, ht2, hk, (show ps_pot m H2 ≤ ps_pot m H from by omega), (show mu_i H2 80 4 < 114 from (show mu_i H2 80 4 < 114 from (by rw [((qi2 4).trans (qi1 4))]; exact (show (mu_i H 80 4) < 114 from hk0)))), (show vq v (ab m H) (ab m H2) from (by rw [ha2]; exact vq_new hc0 hl hv02 hv03))⟩
  obtain ⟨x, Hs⟩ := s
  obtain ⟨hps, hts, his, hbs, hkd, hcs⟩ := hs
  have hps : ps m Hs := hps
  have hts : pt m B H Hs := hts
  have his : ∀ j, 6 ≤ j → mu_i Hs 80 j = mu_i H 80 j := his
  have hbs : ps_pot m Hs ≤ ps_pot m H := hbs
  have hkd : mu_i Hs 80 4 < 114 := hkd
  have hcs : vq v (ab m H) (ab m Hs) := hcs
  show mu_W _ _ (37, [(2, .inl x), (0, .inr (.inr (some 80))), (1, .inl (nI v))], [], Hs) _
  refine mw_go mu_g168 (k := 2) (f1 := (40, [(2, .inl x), (0, .inr (.inr (some 80))), (1, .inl (nI v))], [.inl (65536 : Int32), .inl x], Hs)) (C := []) rfl trivial ?_
  refine mw_if (P := x < (65536 : Int32)) (a := 43) (b := 177) (fun _ => rfl) trivial (fun h3 => ?_) (fun h3 => ?_)
  · -- 43: x < (65536 : Int32)
    refine mw_go mu_g168 (k := 1) (f1 := (44, [(2, .inl x), (0, .inr (.inr (some 80))), (1, .inl (nI v))], [.inr (.inr (some 80))], Hs)) (C := []) rfl trivial ?_
    refine mw_cV (fun _ => rfl) (show mu_is Hs (some 80) 7 from hps.1.is rfl) (pb_adv (d := (d + 1)) (B := B) hps) (fun H4 q4 => ?_)
    obtain ⟨⟨hp4, qt4, qk4, qb4, qc4⟩, qa4⟩ := q4
    have ht4 := hts.trans qt4
    have qs4 : gi_sz H4 89 = gi_sz Hs 89 := qk4.2
    have ha4 : ab m H4 = (ab m Hs) := qa4
    have qd4 := qc4 (show mu_i Hs 80 4 < 114 from (show (mu_i Hs 80 4) < 114 from hkd))
    refine mw_go mu_g168 (k := 3) (f1 := (53, [(2, .inl x), (0, .inr (.inr (some 80))), (1, .inl (nI v))], [.inl (81 : Int32), .inl (mu_i H4 80 4)], H4)) (C := [mu_is H4 (some 80) 7]) rfl (show mu_is H4 (some 80) 7 from hp4.1.is rfl) ?_
    refine mw_if (P := (mu_i H4 80 4) = (81 : Int32)) (a := 56) (b := 60) (fun _ => rfl) trivial (fun h5 => ?_) (fun h5 => ?_)
    · -- 56: (mu_i H4 80 4) = (81 : Int32)
      refine mw_go mu_g168 (k := 4) (f1 := (63, [(3, .inl (1 : Int32)), (2, .inl x), (0, .inr (.inr (some 80))), (1, .inl (nI v))], [.inl (1 : Int32)], H4)) (C := []) rfl trivial ?_
      refine mw_if (P := (1 : Int32) = 0) (a := 70) (b := 66) (fun _ => rfl) trivial (fun h6 => absurd h6 (by decide)) (fun h6 => ?_)
      refine mw_go mu_g168 (k := 1) (f1 := (67, [(3, .inl (1 : Int32)), (2, .inl x), (0, .inr (.inr (some 80))), (1, .inl (nI v))], [.inr (.inr (some 80))], H4)) (C := []) rfl trivial ?_
      refine mw_cV (fun _ => rfl) (show mu_is H4 (some 80) 7 from hp4.1.is rfl) (pb_adv (d := (d + 1)) (B := B) hp4) (fun H7 q7 => ?_)
      obtain ⟨⟨hp7, qt7, qk7, qb7, qc7⟩, qa7⟩ := q7
      have ht7 := ht4.trans qt7
      have qs7 : gi_sz H7 89 = gi_sz H4 89 := qk7.2
      have ha7 : ab m H7 = (ab m Hs) := qa7.trans (by rw [ha4])
      have qd7 := qc7 (show mu_i H4 80 4 < 114 from (show (mu_i H4 80 4) < 114 from (by rw [h5]; decide)))
      refine mw_go mu_g168 (k := 3) (f1 := (76, [(3, .inl (1 : Int32)), (2, .inl x), (0, .inr (.inr (some 80))), (1, .inl (nI v))], [.inl (112 : Int32), .inl (mu_i H7 80 4)], H7)) (C := [mu_is H7 (some 80) 7]) rfl (show mu_is H7 (some 80) 7 from hp7.1.is rfl) ?_
      refine mw_if (P := (mu_i H7 80 4) = (112 : Int32)) (a := 79) (b := 111) (fun _ => rfl) trivial (fun h8 => ?_) (fun h8 => ?_)
      · -- 79: (mu_i H7 80 4) = (112 : Int32)
        refine mw_go mu_g168 (k := 1) (f1 := (80, [(3, .inl (1 : Int32)), (2, .inl x), (0, .inr (.inr (some 80))), (1, .inl (nI v))], [.inl (1 : Int32)], H7)) (C := []) rfl trivial ?_
        refine mw_if (P := (1 : Int32) = 0) (a := 83) (b := 111) (fun _ => rfl) trivial (fun h9 => absurd h9 (by decide)) (fun h9 => ?_)
        refine mw_go mu_g168 (k := 3) (f1 := (117, [(3, .inl (1 : Int32)), (2, .inl x), (0, .inr (.inr (some 80))), (1, .inl (nI v))], [.inl (113 : Int32), .inl (mu_i H7 80 4)], H7)) (C := [mu_is H7 (some 80) 7]) rfl (show mu_is H7 (some 80) 7 from hp7.1.is rfl) ?_
        refine mw_if (P := (mu_i H7 80 4) = (113 : Int32)) (a := 120) (b := 153) (fun _ => rfl) trivial (fun h10 => ?_) (fun h10 => ?_)
        · -- 120: (mu_i H7 80 4) = (113 : Int32)
          refine mw_go mu_g168 (k := 2) (f1 := (124, [(3, .inl (1 : Int32)), (2, .inl x), (0, .inr (.inr (some 80))), (1, .inl (nI v))], [.inr (.inr (mu_r H7 80 2))], H7)) (C := [mu_is H7 (some 80) 7]) rfl (show mu_is H7 (some 80) 7 from hp7.1.is rfl) ?_
          rw [hp7.m80]
          refine mw_go mu_g168 (k := 1) (f1 := (127, [(3, .inl (1 : Int32)), (2, .inl x), (0, .inr (.inr (some 80))), (1, .inl (nI v))], [.inr (.inr (mu_r H7 m 4))], H7)) (C := [mu_is H7 (some m) 6]) rfl (show mu_is H7 (some m) 6 from hp7.im) ?_
          rw [hp7.r4]
          refine mw_go mu_g168 (k := 1) (f1 := (128, [(3, .inl (1 : Int32)), (2, .inl x), (0, .inr (.inr (some 80))), (1, .inl (nI v))], [.inl (1 : Int32), .inr (.inr (some (m + 9)))], H7)) (C := []) rfl trivial ?_
          refine mw_if (P := (1 : Int32) = 0) (a := 139) (b := 131) (fun _ => rfl) trivial (fun h11 => absurd h11 (by decide)) (fun h11 => ?_)
          refine mw_go mu_g168 (k := 7) (f1 := (146, [(3, .inl (1 : Int32)), (2, .inl x), (0, .inr (.inr (some 80))), (1, .inl (nI v))], [.inl (0 : Int32), .inl (0 : Int32), .inl (0 : Int32), .inl (-(mu_i H7 80 5)), .inr (.inr (some (m + 9)))], H7)) (C := [mu_is H7 (some 80) 7]) rfl (show mu_is H7 (some 80) 7 from hp7.1.is rfl) ?_
          refine mw_cI (fun _ => rfl) (show mu_is H7 (some (m + 9)) 10 from hp7.i4) (pb_put4 (d := d) (B := B) hp7 (by omega) (-(mu_i H7 80 5)) (0 : Int32) (0 : Int32) (0 : Int32)) (fun x12 H12 q12 => ?_)
          obtain ⟨hp12, qt12, qx12, qi12, qs12, qb12, qa12⟩ := q12
          obtain rfl : x12 = nI ((ab m Hs) 4).1 := by rw [← ha7]; exact qx12
          have ht12 := ht7.trans qt12
          have ha12 : ab m H12 = (tp 4 (ab m Hs) (-(mu_i H7 80 5)) (0 : Int32) (0 : Int32) (0 : Int32)) := qa12.trans (by rw [ha7])
          refine mw_go mu_g168 (k := 3) (f1 := (156, [(3, .inl (1 : Int32)), (2, .inl x), (0, .inr (.inr (some 80))), (1, .inl (nI v))], [.inr (.inr (some 80))], H12)) (C := []) rfl trivial ?_
          refine mw_cV (fun _ => rfl) (show mu_is H12 (some 80) 7 from hp12.1.is rfl) (pb_adv (d := (d + 1)) (B := B) hp12) (fun H13 q13 => ?_)
          obtain ⟨⟨hp13, qt13, qk13, qb13, qc13⟩, qa13⟩ := q13
          have ht13 := ht12.trans qt13
          have qs13 : gi_sz H13 89 = gi_sz H12 89 := qk13.2
          have ha13 : ab m H13 = (tp 4 (ab m Hs) (-(mu_i H7 80 5)) (0 : Int32) (0 : Int32) (0 : Int32)) := qa13.trans (by rw [ha12])
          have qd13 := qc13 (show mu_i H12 80 4 < 114 from (by rw [(qi12 4)]; exact (show (mu_i H7 80 4) < 114 from (by rw [h10]; decide))))
          refine mw_go mu_g168 (k := 3) (f1 := (165, [(3, .inl (1 : Int32)), (2, .inl x), (0, .inr (.inr (some 80))), (1, .inl (nI v))], [.inl (70 : Int32), .inl (mu_i H13 80 4)], H13)) (C := [mu_is H13 (some 80) 7]) rfl (show mu_is H13 (some 80) 7 from hp13.1.is rfl) ?_
          refine mw_if (P := (mu_i H13 80 4) = (70 : Int32)) (a := 171) (b := 168) (fun _ => rfl) trivial (fun h14 => ?_) (fun h14 => ?_)
          · -- 171: (mu_i H13 80 4) = (70 : Int32)
            refine mw_go mu_g168 (k := 2) (f1 := (37, [(2, .inl (x + 1)), (3, .inl (1 : Int32)), (0, .inr (.inr (some 80))), (1, .inl (nI v))], [], H13)) (C := []) rfl trivial ?_
            have hk : ∀ j, 6 ≤ j → mu_i H13 80 j = mu_i H 80 j := (fun j hj => by rw [qk13.1 j (by omega)]; rw [qi12]; rw [qk7.1 j (by omega)]; rw [qk4.1 j (by omega)]; rw [his j (by omega)])
            exact mw_sub (by simp) (ih ((x + 1), H13) ⟨hp13, ht13, hk, (show ps_pot m H13 ≤ ps_pot m H from by omega), (show mu_i H13 80 4 < 114 from (show mu_i H13 80 4 < 114 from (show (mu_i H13 80 4) < 114 from (by rw [h14]; decide)))), (show vq v (ab m H) (ab m H13) from (by rw [ha13]; exact hcs.put))⟩ (by show ps_pot m H13 < ps_pot m Hs; omega))
          · -- 168: not (mu_i H13 80 4) = (70 : Int32)
            refine mw_go mu_g168 (k := 3) (f1 := (181, [(3, .inl (1 : Int32)), (2, .inl x), (0, .inr (.inr (some 80))), (1, .inl (nI v))], [.inr (.inr (mu_r H13 80 2))], H13)) (C := [mu_is H13 (some 80) 7]) rfl (show mu_is H13 (some 80) 7 from hp13.1.is rfl) ?_
            rw [hp13.m80]
            refine mw_go mu_g168 (k := 1) (f1 := (184, [(3, .inl (1 : Int32)), (2, .inl x), (0, .inr (.inr (some 80))), (1, .inl (nI v))], [.inr (.inr (mu_r H13 m 3))], H13)) (C := [mu_is H13 (some m) 6]) rfl (show mu_is H13 (some m) 6 from hp13.im) ?_
            rw [hp13.r3]
            refine mw_go mu_g168 (k := 4) (f1 := (190, [(3, .inl (1 : Int32)), (2, .inl x), (0, .inr (.inr (some 80))), (1, .inl (nI v))], [.inr (.inr (mu_r H13 80 2)), .inl (3 : Int32), .inl (nI v), .inr (.inr (some (m + 7)))], H13)) (C := [mu_is H13 (some 80) 7]) rfl (show mu_is H13 (some 80) 7 from hp13.1.is rfl) ?_
            rw [hp13.m80]
            refine mw_go mu_g168 (k := 1) (f1 := (193, [(3, .inl (1 : Int32)), (2, .inl x), (0, .inr (.inr (some 80))), (1, .inl (nI v))], [.inr (.inr (mu_r H13 m 4)), .inl (3 : Int32), .inl (nI v), .inr (.inr (some (m + 7)))], H13)) (C := [mu_is H13 (some m) 6]) rfl (show mu_is H13 (some m) 6 from hp13.im) ?_
            rw [hp13.r4]
            refine mw_go mu_g168 (k := 3) (f1 := (200, [(3, .inl (1 : Int32)), (2, .inl x), (0, .inr (.inr (some 80))), (1, .inl (nI v))], [.inr (.inr (mu_r H13 80 2)), .inl (mu_i H13 (m + 9) 2), .inl (3 : Int32), .inl (nI v), .inr (.inr (some (m + 7)))], H13)) (C := [mu_is H13 (some (m + 9)) 10, mu_is H13 (some 80) 7]) rfl (show (mu_is H13 (some (m + 9)) 10) ∧ (mu_is H13 (some 80) 7) from ⟨hp13.i4, hp13.1.is rfl⟩) ?_
            rw [hp13.m80]
            refine mw_go mu_g168 (k := 1) (f1 := (203, [(3, .inl (1 : Int32)), (2, .inl x), (0, .inr (.inr (some 80))), (1, .inl (nI v))], [.inr (.inr (mu_r H13 m 3)), .inl (mu_i H13 (m + 9) 2), .inl (3 : Int32), .inl (nI v), .inr (.inr (some (m + 7)))], H13)) (C := [mu_is H13 (some m) 6]) rfl (show mu_is H13 (some m) 6 from hp13.im) ?_
            rw [hp13.r3]
            refine mw_go mu_g168 (k := 2) (f1 := (205, [(3, .inl (1 : Int32)), (2, .inl x), (0, .inr (.inr (some 80))), (1, .inl (nI v))], [.inl (2 : Int32), .inl (nI v), .inr (.inr (some (m + 7))), .inl (mu_i H13 (m + 9) 2), .inl (3 : Int32), .inl (nI v), .inr (.inr (some (m + 7)))], H13)) (C := []) rfl trivial ?_
            refine mw_cIe (fun _ => rfl) (show mu_is H13 (some (m + 7)) 10 from hp13.i3) (gi_get_ok (d := (d + 2)) (H := H13) hp13.1 hp13.w3 (nI v) (j := 2) (by decide)) ?_
            refine mw_go mu_g168 (k := 1) (f1 := (209, [(3, .inl (1 : Int32)), (2, .inl x), (0, .inr (.inr (some 80))), (1, .inl (nI v))], [.inl ((mu_i H13 (m + 9) 2) - (rw_get H13 (m + 7) 6 (gi_sz H13 (m + 7)) (nI v) 2)), .inl (3 : Int32), .inl (nI v), .inr (.inr (some (m + 7)))], H13)) (C := []) rfl trivial ?_
            refine mw_cV (fun _ => rfl) (show mu_is H13 (some (m + 7)) 10 from hp13.i3) (gi_set_ok (d := (d + 2)) hp13.1 hp13.w3 (nI v) ((mu_i H13 (m + 9) 2) - (rw_get H13 (m + 7) 6 (gi_sz H13 (m + 7)) (nI v) 2)) (j := 3) (by decide)) (fun H16 q16 => ?_)
            have qa16 : ab m H16 = tx 3 (ab m H13) (nI v) 3 ((mu_i H13 (m + 9) 2) - (rw_get H13 (m + 7) 6 (gi_sz H13 (m + 7)) (nI v) 2)) := by rw [q16]; exact ab_set hp13.1 hp13.2.1 (j := 3) (by decide)
            obtain ⟨hp16, qt16, qi16, qs16, qb16⟩ := ps_set (B := B) hp13 (j := 3) (row := (nI v)) (v := ((mu_i H13 (m + 9) 2) - (rw_get H13 (m + 7) 6 (gi_sz H13 (m + 7)) (nI v) 2))) hp13.w3 (by omega)
            rw [← q16] at hp16 qt16 qi16 qs16 qb16
            have ht16 := ht13.trans qt16
            have hn16 : vq v (ab m H) (ab m H13) := (by rw [ha13]; exact hcs.put)
            have ha16 : ab m H16 = (tx 3 (ab m H13) (nI v) 3 (nI ((ab m H13 4).1 - (ab m H 4).1))) := qa16.trans (by rw [show ((mu_i H13 (m + 9) 2) - (rw_get H13 (m + 7) 6 (gi_sz H13 (m + 7)) (nI v) 2)) = nI ((ab m H13 4).1 - (ab m H 4).1) from vq.val hp13 hn16])
            refine mw_go mu_g168 (k := 2) (f1 := (215, [(3, .inl (1 : Int32)), (2, .inl x), (0, .inr (.inr (some 80))), (1, .inl (nI v))], [.inl (67 : Int32), .inr (.inr (some 80))], H16)) (C := []) rfl trivial ?_
            refine mw_cI (fun _ => rfl) (show mu_is H16 (some 80) 7 from hp16.1.is rfl) (pb_take (d := d) (B := B) hp16 (67 : Int32) (by decide)) (fun x17 H17 q17 => ?_)
            rcases q17 with ⟨rfl, rfl, qe17⟩ | ⟨rfl, hp17, qt17, qk17, qb17, qe17, qa17⟩
            · -- (0 : Int32)
              exact mw_of (fun _ => mu_ret rfl (Or.inl rfl) ⟨_, H16, rfl, Or.inl ⟨rfl, hp16, ht16, by omega⟩⟩)
            · -- (1 : Int32)
              have ht17 := ht16.trans qt17
              have qs17 : gi_sz H17 89 = gi_sz H16 89 := qk17.2
              have ha17 : ab m H17 = (tx 3 (ab m H13) (nI v) 3 (nI ((ab m H13 4).1 - (ab m H 4).1))) := qa17.trans (by rw [ha16])
              exact mw_of (fun _ => mu_ret rfl (Or.inr rfl) ⟨_, H17, rfl, Or.inr ⟨rfl, hp17, ht17, by omega, (by rw [ha17]; exact hn16.fin (ab_lt hp13 rfl (by decide))), (show ∀ j, 6 ≤ j → mu_i H17 80 j = mu_i H 80 j from (fun j hj => by rw [qk17.1 j (by omega)]; rw [qi16]; rw [qk13.1 j (by omega)]; rw [qi12]; rw [qk7.1 j (by omega)]; rw [qk4.1 j (by omega)]; rw [his j (by omega)]))⟩⟩)
        · -- 153: not (mu_i H7 80 4) = (113 : Int32)
          refine mw_go mu_g168 (k := 1) (f1 := (154, [(3, .inl (1 : Int32)), (2, .inl x), (0, .inr (.inr (some 80))), (1, .inl (nI v))], [.inl (0 : Int32)], H7)) (C := []) rfl trivial ?_
          exact mw_of (fun _ => mu_ret rfl (Or.inl rfl) ⟨_, H7, rfl, Or.inl ⟨rfl, hp7, ht7, by omega⟩⟩)
      · -- 111: not (mu_i H7 80 4) = (112 : Int32)
        refine mw_go mu_g168 (k := 3) (f1 := (117, [(3, .inl (1 : Int32)), (2, .inl x), (0, .inr (.inr (some 80))), (1, .inl (nI v))], [.inl (113 : Int32), .inl (mu_i H7 80 4)], H7)) (C := [mu_is H7 (some 80) 7]) rfl (show mu_is H7 (some 80) 7 from hp7.1.is rfl) ?_
        refine mw_if (P := (mu_i H7 80 4) = (113 : Int32)) (a := 120) (b := 153) (fun _ => rfl) trivial (fun h18 => ?_) (fun h18 => ?_)
        · -- 120: (mu_i H7 80 4) = (113 : Int32)
          refine mw_go mu_g168 (k := 2) (f1 := (124, [(3, .inl (1 : Int32)), (2, .inl x), (0, .inr (.inr (some 80))), (1, .inl (nI v))], [.inr (.inr (mu_r H7 80 2))], H7)) (C := [mu_is H7 (some 80) 7]) rfl (show mu_is H7 (some 80) 7 from hp7.1.is rfl) ?_
          rw [hp7.m80]
          refine mw_go mu_g168 (k := 1) (f1 := (127, [(3, .inl (1 : Int32)), (2, .inl x), (0, .inr (.inr (some 80))), (1, .inl (nI v))], [.inr (.inr (mu_r H7 m 4))], H7)) (C := [mu_is H7 (some m) 6]) rfl (show mu_is H7 (some m) 6 from hp7.im) ?_
          rw [hp7.r4]
          refine mw_go mu_g168 (k := 1) (f1 := (128, [(3, .inl (1 : Int32)), (2, .inl x), (0, .inr (.inr (some 80))), (1, .inl (nI v))], [.inl (1 : Int32), .inr (.inr (some (m + 9)))], H7)) (C := []) rfl trivial ?_
          refine mw_if (P := (1 : Int32) = 0) (a := 139) (b := 131) (fun _ => rfl) trivial (fun h19 => absurd h19 (by decide)) (fun h19 => ?_)
          refine mw_go mu_g168 (k := 7) (f1 := (146, [(3, .inl (1 : Int32)), (2, .inl x), (0, .inr (.inr (some 80))), (1, .inl (nI v))], [.inl (0 : Int32), .inl (0 : Int32), .inl (0 : Int32), .inl (-(mu_i H7 80 5)), .inr (.inr (some (m + 9)))], H7)) (C := [mu_is H7 (some 80) 7]) rfl (show mu_is H7 (some 80) 7 from hp7.1.is rfl) ?_
          refine mw_cI (fun _ => rfl) (show mu_is H7 (some (m + 9)) 10 from hp7.i4) (pb_put4 (d := d) (B := B) hp7 (by omega) (-(mu_i H7 80 5)) (0 : Int32) (0 : Int32) (0 : Int32)) (fun x20 H20 q20 => ?_)
          obtain ⟨hp20, qt20, qx20, qi20, qs20, qb20, qa20⟩ := q20
          obtain rfl : x20 = nI ((ab m Hs) 4).1 := by rw [← ha7]; exact qx20
          have ht20 := ht7.trans qt20
          have ha20 : ab m H20 = (tp 4 (ab m Hs) (-(mu_i H7 80 5)) (0 : Int32) (0 : Int32) (0 : Int32)) := qa20.trans (by rw [ha7])
          refine mw_go mu_g168 (k := 3) (f1 := (156, [(3, .inl (1 : Int32)), (2, .inl x), (0, .inr (.inr (some 80))), (1, .inl (nI v))], [.inr (.inr (some 80))], H20)) (C := []) rfl trivial ?_
          refine mw_cV (fun _ => rfl) (show mu_is H20 (some 80) 7 from hp20.1.is rfl) (pb_adv (d := (d + 1)) (B := B) hp20) (fun H21 q21 => ?_)
          obtain ⟨⟨hp21, qt21, qk21, qb21, qc21⟩, qa21⟩ := q21
          have ht21 := ht20.trans qt21
          have qs21 : gi_sz H21 89 = gi_sz H20 89 := qk21.2
          have ha21 : ab m H21 = (tp 4 (ab m Hs) (-(mu_i H7 80 5)) (0 : Int32) (0 : Int32) (0 : Int32)) := qa21.trans (by rw [ha20])
          have qd21 := qc21 (show mu_i H20 80 4 < 114 from (by rw [(qi20 4)]; exact (show (mu_i H7 80 4) < 114 from (by rw [h18]; decide))))
          refine mw_go mu_g168 (k := 3) (f1 := (165, [(3, .inl (1 : Int32)), (2, .inl x), (0, .inr (.inr (some 80))), (1, .inl (nI v))], [.inl (70 : Int32), .inl (mu_i H21 80 4)], H21)) (C := [mu_is H21 (some 80) 7]) rfl (show mu_is H21 (some 80) 7 from hp21.1.is rfl) ?_
          refine mw_if (P := (mu_i H21 80 4) = (70 : Int32)) (a := 171) (b := 168) (fun _ => rfl) trivial (fun h22 => ?_) (fun h22 => ?_)
          · -- 171: (mu_i H21 80 4) = (70 : Int32)
            refine mw_go mu_g168 (k := 2) (f1 := (37, [(2, .inl (x + 1)), (3, .inl (1 : Int32)), (0, .inr (.inr (some 80))), (1, .inl (nI v))], [], H21)) (C := []) rfl trivial ?_
            have hk : ∀ j, 6 ≤ j → mu_i H21 80 j = mu_i H 80 j := (fun j hj => by rw [qk21.1 j (by omega)]; rw [qi20]; rw [qk7.1 j (by omega)]; rw [qk4.1 j (by omega)]; rw [his j (by omega)])
            exact mw_sub (by simp) (ih ((x + 1), H21) ⟨hp21, ht21, hk, (show ps_pot m H21 ≤ ps_pot m H from by omega), (show mu_i H21 80 4 < 114 from (show mu_i H21 80 4 < 114 from (show (mu_i H21 80 4) < 114 from (by rw [h22]; decide)))), (show vq v (ab m H) (ab m H21) from (by rw [ha21]; exact hcs.put))⟩ (by show ps_pot m H21 < ps_pot m Hs; omega))
          · -- 168: not (mu_i H21 80 4) = (70 : Int32)
            refine mw_go mu_g168 (k := 3) (f1 := (181, [(3, .inl (1 : Int32)), (2, .inl x), (0, .inr (.inr (some 80))), (1, .inl (nI v))], [.inr (.inr (mu_r H21 80 2))], H21)) (C := [mu_is H21 (some 80) 7]) rfl (show mu_is H21 (some 80) 7 from hp21.1.is rfl) ?_
            rw [hp21.m80]
            refine mw_go mu_g168 (k := 1) (f1 := (184, [(3, .inl (1 : Int32)), (2, .inl x), (0, .inr (.inr (some 80))), (1, .inl (nI v))], [.inr (.inr (mu_r H21 m 3))], H21)) (C := [mu_is H21 (some m) 6]) rfl (show mu_is H21 (some m) 6 from hp21.im) ?_
            rw [hp21.r3]
            refine mw_go mu_g168 (k := 4) (f1 := (190, [(3, .inl (1 : Int32)), (2, .inl x), (0, .inr (.inr (some 80))), (1, .inl (nI v))], [.inr (.inr (mu_r H21 80 2)), .inl (3 : Int32), .inl (nI v), .inr (.inr (some (m + 7)))], H21)) (C := [mu_is H21 (some 80) 7]) rfl (show mu_is H21 (some 80) 7 from hp21.1.is rfl) ?_
            rw [hp21.m80]
            refine mw_go mu_g168 (k := 1) (f1 := (193, [(3, .inl (1 : Int32)), (2, .inl x), (0, .inr (.inr (some 80))), (1, .inl (nI v))], [.inr (.inr (mu_r H21 m 4)), .inl (3 : Int32), .inl (nI v), .inr (.inr (some (m + 7)))], H21)) (C := [mu_is H21 (some m) 6]) rfl (show mu_is H21 (some m) 6 from hp21.im) ?_
            rw [hp21.r4]
            refine mw_go mu_g168 (k := 3) (f1 := (200, [(3, .inl (1 : Int32)), (2, .inl x), (0, .inr (.inr (some 80))), (1, .inl (nI v))], [.inr (.inr (mu_r H21 80 2)), .inl (mu_i H21 (m + 9) 2), .inl (3 : Int32), .inl (nI v), .inr (.inr (some (m + 7)))], H21)) (C := [mu_is H21 (some (m + 9)) 10, mu_is H21 (some 80) 7]) rfl (show (mu_is H21 (some (m + 9)) 10) ∧ (mu_is H21 (some 80) 7) from ⟨hp21.i4, hp21.1.is rfl⟩) ?_
            rw [hp21.m80]
            refine mw_go mu_g168 (k := 1) (f1 := (203, [(3, .inl (1 : Int32)), (2, .inl x), (0, .inr (.inr (some 80))), (1, .inl (nI v))], [.inr (.inr (mu_r H21 m 3)), .inl (mu_i H21 (m + 9) 2), .inl (3 : Int32), .inl (nI v), .inr (.inr (some (m + 7)))], H21)) (C := [mu_is H21 (some m) 6]) rfl (show mu_is H21 (some m) 6 from hp21.im) ?_
            rw [hp21.r3]
            refine mw_go mu_g168 (k := 2) (f1 := (205, [(3, .inl (1 : Int32)), (2, .inl x), (0, .inr (.inr (some 80))), (1, .inl (nI v))], [.inl (2 : Int32), .inl (nI v), .inr (.inr (some (m + 7))), .inl (mu_i H21 (m + 9) 2), .inl (3 : Int32), .inl (nI v), .inr (.inr (some (m + 7)))], H21)) (C := []) rfl trivial ?_
            refine mw_cIe (fun _ => rfl) (show mu_is H21 (some (m + 7)) 10 from hp21.i3) (gi_get_ok (d := (d + 2)) (H := H21) hp21.1 hp21.w3 (nI v) (j := 2) (by decide)) ?_
            refine mw_go mu_g168 (k := 1) (f1 := (209, [(3, .inl (1 : Int32)), (2, .inl x), (0, .inr (.inr (some 80))), (1, .inl (nI v))], [.inl ((mu_i H21 (m + 9) 2) - (rw_get H21 (m + 7) 6 (gi_sz H21 (m + 7)) (nI v) 2)), .inl (3 : Int32), .inl (nI v), .inr (.inr (some (m + 7)))], H21)) (C := []) rfl trivial ?_
            refine mw_cV (fun _ => rfl) (show mu_is H21 (some (m + 7)) 10 from hp21.i3) (gi_set_ok (d := (d + 2)) hp21.1 hp21.w3 (nI v) ((mu_i H21 (m + 9) 2) - (rw_get H21 (m + 7) 6 (gi_sz H21 (m + 7)) (nI v) 2)) (j := 3) (by decide)) (fun H24 q24 => ?_)
            have qa24 : ab m H24 = tx 3 (ab m H21) (nI v) 3 ((mu_i H21 (m + 9) 2) - (rw_get H21 (m + 7) 6 (gi_sz H21 (m + 7)) (nI v) 2)) := by rw [q24]; exact ab_set hp21.1 hp21.2.1 (j := 3) (by decide)
            obtain ⟨hp24, qt24, qi24, qs24, qb24⟩ := ps_set (B := B) hp21 (j := 3) (row := (nI v)) (v := ((mu_i H21 (m + 9) 2) - (rw_get H21 (m + 7) 6 (gi_sz H21 (m + 7)) (nI v) 2))) hp21.w3 (by omega)
            rw [← q24] at hp24 qt24 qi24 qs24 qb24
            have ht24 := ht21.trans qt24
            have hn24 : vq v (ab m H) (ab m H21) := (by rw [ha21]; exact hcs.put)
            have ha24 : ab m H24 = (tx 3 (ab m H21) (nI v) 3 (nI ((ab m H21 4).1 - (ab m H 4).1))) := qa24.trans (by rw [show ((mu_i H21 (m + 9) 2) - (rw_get H21 (m + 7) 6 (gi_sz H21 (m + 7)) (nI v) 2)) = nI ((ab m H21 4).1 - (ab m H 4).1) from vq.val hp21 hn24])
            refine mw_go mu_g168 (k := 2) (f1 := (215, [(3, .inl (1 : Int32)), (2, .inl x), (0, .inr (.inr (some 80))), (1, .inl (nI v))], [.inl (67 : Int32), .inr (.inr (some 80))], H24)) (C := []) rfl trivial ?_
            refine mw_cI (fun _ => rfl) (show mu_is H24 (some 80) 7 from hp24.1.is rfl) (pb_take (d := d) (B := B) hp24 (67 : Int32) (by decide)) (fun x25 H25 q25 => ?_)
            rcases q25 with ⟨rfl, rfl, qe25⟩ | ⟨rfl, hp25, qt25, qk25, qb25, qe25, qa25⟩
            · -- (0 : Int32)
              exact mw_of (fun _ => mu_ret rfl (Or.inl rfl) ⟨_, H24, rfl, Or.inl ⟨rfl, hp24, ht24, by omega⟩⟩)
            · -- (1 : Int32)
              have ht25 := ht24.trans qt25
              have qs25 : gi_sz H25 89 = gi_sz H24 89 := qk25.2
              have ha25 : ab m H25 = (tx 3 (ab m H21) (nI v) 3 (nI ((ab m H21 4).1 - (ab m H 4).1))) := qa25.trans (by rw [ha24])
              exact mw_of (fun _ => mu_ret rfl (Or.inr rfl) ⟨_, H25, rfl, Or.inr ⟨rfl, hp25, ht25, by omega, (by rw [ha25]; exact hn24.fin (ab_lt hp21 rfl (by decide))), (show ∀ j, 6 ≤ j → mu_i H25 80 j = mu_i H 80 j from (fun j hj => by rw [qk25.1 j (by omega)]; rw [qi24]; rw [qk21.1 j (by omega)]; rw [qi20]; rw [qk7.1 j (by omega)]; rw [qk4.1 j (by omega)]; rw [his j (by omega)]))⟩⟩)
        · -- 153: not (mu_i H7 80 4) = (113 : Int32)
          refine mw_go mu_g168 (k := 1) (f1 := (154, [(3, .inl (1 : Int32)), (2, .inl x), (0, .inr (.inr (some 80))), (1, .inl (nI v))], [.inl (0 : Int32)], H7)) (C := []) rfl trivial ?_
          exact mw_of (fun _ => mu_ret rfl (Or.inl rfl) ⟨_, H7, rfl, Or.inl ⟨rfl, hp7, ht7, by omega⟩⟩)
    · -- 60: not (mu_i H4 80 4) = (81 : Int32)
      refine mw_go mu_g168 (k := 3) (f1 := (63, [(3, .inl (0 : Int32)), (2, .inl x), (0, .inr (.inr (some 80))), (1, .inl (nI v))], [.inl (0 : Int32)], H4)) (C := []) rfl trivial ?_
      refine mw_if (P := (0 : Int32) = 0) (a := 70) (b := 66) (fun _ => rfl) trivial (fun h26 => ?_) (fun h26 => absurd (by decide) h26)
      refine mw_go mu_g168 (k := 3) (f1 := (76, [(3, .inl (0 : Int32)), (2, .inl x), (0, .inr (.inr (some 80))), (1, .inl (nI v))], [.inl (112 : Int32), .inl (mu_i H4 80 4)], H4)) (C := [mu_is H4 (some 80) 7]) rfl (show mu_is H4 (some 80) 7 from hp4.1.is rfl) ?_
      refine mw_if (P := (mu_i H4 80 4) = (112 : Int32)) (a := 79) (b := 111) (fun _ => rfl) trivial (fun h27 => ?_) (fun h27 => ?_)
      · -- 79: (mu_i H4 80 4) = (112 : Int32)
        refine mw_go mu_g168 (k := 1) (f1 := (80, [(3, .inl (0 : Int32)), (2, .inl x), (0, .inr (.inr (some 80))), (1, .inl (nI v))], [.inl (0 : Int32)], H4)) (C := []) rfl trivial ?_
        refine mw_if (P := (0 : Int32) = 0) (a := 83) (b := 111) (fun _ => rfl) trivial (fun h28 => ?_) (fun h28 => absurd (by decide) h28)
        refine mw_go mu_g168 (k := 2) (f1 := (87, [(3, .inl (0 : Int32)), (2, .inl x), (0, .inr (.inr (some 80))), (1, .inl (nI v))], [.inr (.inr (mu_r H4 80 2))], H4)) (C := [mu_is H4 (some 80) 7]) rfl (show mu_is H4 (some 80) 7 from hp4.1.is rfl) ?_
        rw [hp4.m80]
        refine mw_go mu_g168 (k := 1) (f1 := (90, [(3, .inl (0 : Int32)), (2, .inl x), (0, .inr (.inr (some 80))), (1, .inl (nI v))], [.inr (.inr (mu_r H4 m 4))], H4)) (C := [mu_is H4 (some m) 6]) rfl (show mu_is H4 (some m) 6 from hp4.im) ?_
        rw [hp4.r4]
        refine mw_go mu_g168 (k := 2) (f1 := (94, [(3, .inl (0 : Int32)), (2, .inl x), (0, .inr (.inr (some 80))), (1, .inl (nI v))], [.inr (.inr (mu_r H4 80 0)), .inr (.inr (some (m + 9)))], H4)) (C := [mu_is H4 (some 80) 7]) rfl (show mu_is H4 (some 80) 7 from hp4.1.is rfl) ?_
        rw [(hp4.1.r (p := 80) (j := 0) (q := 81) rfl)]
        refine mw_go mu_g168 (k := 2) (f1 := (98, [(3, .inl (0 : Int32)), (2, .inl x), (0, .inr (.inr (some 80))), (1, .inl (nI v))], [.inl (mu_i H4 80 5), .inr (.inr (some 81)), .inr (.inr (some (m + 9)))], H4)) (C := [mu_is H4 (some 80) 7]) rfl (show mu_is H4 (some 80) 7 from hp4.1.is rfl) ?_
        refine mw_cI (fun _ => rfl) (show mu_is H4 (some 81) 4 from hp4.1.is rfl) (pb_sym (d := (d + 1)) (B := B) hp4 (mu_i H4 80 5)) (fun x29 H29 q29 => ?_)
        obtain ⟨hp29, qt29, qi29, qs29, qb29, qa29⟩ := q29
        have ht29 := ht4.trans qt29
        have ha29 : ab m H29 = (ab m Hs) := qa29.trans (by rw [ha4])
        refine mw_go mu_g168 (k := 3) (f1 := (104, [(3, .inl (0 : Int32)), (2, .inl x), (0, .inr (.inr (some 80))), (1, .inl (nI v))], [.inl (0 : Int32), .inl (0 : Int32), .inl (1 : Int32), .inl x29, .inr (.inr (some (m + 9)))], H29)) (C := []) rfl trivial ?_
        refine mw_cI (fun _ => rfl) (show mu_is H29 (some (m + 9)) 10 from hp29.i4) (pb_put4 (d := d) (B := B) hp29 (by omega) x29 (1 : Int32) (0 : Int32) (0 : Int32)) (fun x30 H30 q30 => ?_)
        obtain ⟨hp30, qt30, qx30, qi30, qs30, qb30, qa30⟩ := q30
        obtain rfl : x30 = nI ((ab m Hs) 4).1 := by rw [← ha29]; exact qx30
        have ht30 := ht29.trans qt30
        have ha30 : ab m H30 = (tp 4 (ab m Hs) x29 (1 : Int32) (0 : Int32) (0 : Int32)) := qa30.trans (by rw [ha29])
        refine mw_go mu_g168 (k := 3) (f1 := (156, [(3, .inl (0 : Int32)), (2, .inl x), (0, .inr (.inr (some 80))), (1, .inl (nI v))], [.inr (.inr (some 80))], H30)) (C := []) rfl trivial ?_
        refine mw_cV (fun _ => rfl) (show mu_is H30 (some 80) 7 from hp30.1.is rfl) (pb_adv (d := (d + 1)) (B := B) hp30) (fun H31 q31 => ?_)
        obtain ⟨⟨hp31, qt31, qk31, qb31, qc31⟩, qa31⟩ := q31
        have ht31 := ht30.trans qt31
        have qs31 : gi_sz H31 89 = gi_sz H30 89 := qk31.2
        have ha31 : ab m H31 = (tp 4 (ab m Hs) x29 (1 : Int32) (0 : Int32) (0 : Int32)) := qa31.trans (by rw [ha30])
        have qd31 := qc31 (show mu_i H30 80 4 < 114 from (by rw [((qi30 4).trans (qi29 4))]; exact (show (mu_i H4 80 4) < 114 from (by rw [h27]; decide))))
        refine mw_go mu_g168 (k := 3) (f1 := (165, [(3, .inl (0 : Int32)), (2, .inl x), (0, .inr (.inr (some 80))), (1, .inl (nI v))], [.inl (70 : Int32), .inl (mu_i H31 80 4)], H31)) (C := [mu_is H31 (some 80) 7]) rfl (show mu_is H31 (some 80) 7 from hp31.1.is rfl) ?_
        refine mw_if (P := (mu_i H31 80 4) = (70 : Int32)) (a := 171) (b := 168) (fun _ => rfl) trivial (fun h32 => ?_) (fun h32 => ?_)
        · -- 171: (mu_i H31 80 4) = (70 : Int32)
          refine mw_go mu_g168 (k := 2) (f1 := (37, [(2, .inl (x + 1)), (3, .inl (0 : Int32)), (0, .inr (.inr (some 80))), (1, .inl (nI v))], [], H31)) (C := []) rfl trivial ?_
          have hk : ∀ j, 6 ≤ j → mu_i H31 80 j = mu_i H 80 j := (fun j hj => by rw [qk31.1 j (by omega)]; rw [qi30]; rw [qi29]; rw [qk4.1 j (by omega)]; rw [his j (by omega)])
          exact mw_sub (by simp) (ih ((x + 1), H31) ⟨hp31, ht31, hk, (show ps_pot m H31 ≤ ps_pot m H from by omega), (show mu_i H31 80 4 < 114 from (show mu_i H31 80 4 < 114 from (show (mu_i H31 80 4) < 114 from (by rw [h32]; decide)))), (show vq v (ab m H) (ab m H31) from (by rw [ha31]; exact hcs.put))⟩ (by show ps_pot m H31 < ps_pot m Hs; omega))
        · -- 168: not (mu_i H31 80 4) = (70 : Int32)
          refine mw_go mu_g168 (k := 3) (f1 := (181, [(3, .inl (0 : Int32)), (2, .inl x), (0, .inr (.inr (some 80))), (1, .inl (nI v))], [.inr (.inr (mu_r H31 80 2))], H31)) (C := [mu_is H31 (some 80) 7]) rfl (show mu_is H31 (some 80) 7 from hp31.1.is rfl) ?_
          rw [hp31.m80]
          refine mw_go mu_g168 (k := 1) (f1 := (184, [(3, .inl (0 : Int32)), (2, .inl x), (0, .inr (.inr (some 80))), (1, .inl (nI v))], [.inr (.inr (mu_r H31 m 3))], H31)) (C := [mu_is H31 (some m) 6]) rfl (show mu_is H31 (some m) 6 from hp31.im) ?_
          rw [hp31.r3]
          refine mw_go mu_g168 (k := 4) (f1 := (190, [(3, .inl (0 : Int32)), (2, .inl x), (0, .inr (.inr (some 80))), (1, .inl (nI v))], [.inr (.inr (mu_r H31 80 2)), .inl (3 : Int32), .inl (nI v), .inr (.inr (some (m + 7)))], H31)) (C := [mu_is H31 (some 80) 7]) rfl (show mu_is H31 (some 80) 7 from hp31.1.is rfl) ?_
          rw [hp31.m80]
          refine mw_go mu_g168 (k := 1) (f1 := (193, [(3, .inl (0 : Int32)), (2, .inl x), (0, .inr (.inr (some 80))), (1, .inl (nI v))], [.inr (.inr (mu_r H31 m 4)), .inl (3 : Int32), .inl (nI v), .inr (.inr (some (m + 7)))], H31)) (C := [mu_is H31 (some m) 6]) rfl (show mu_is H31 (some m) 6 from hp31.im) ?_
          rw [hp31.r4]
          refine mw_go mu_g168 (k := 3) (f1 := (200, [(3, .inl (0 : Int32)), (2, .inl x), (0, .inr (.inr (some 80))), (1, .inl (nI v))], [.inr (.inr (mu_r H31 80 2)), .inl (mu_i H31 (m + 9) 2), .inl (3 : Int32), .inl (nI v), .inr (.inr (some (m + 7)))], H31)) (C := [mu_is H31 (some (m + 9)) 10, mu_is H31 (some 80) 7]) rfl (show (mu_is H31 (some (m + 9)) 10) ∧ (mu_is H31 (some 80) 7) from ⟨hp31.i4, hp31.1.is rfl⟩) ?_
          rw [hp31.m80]
          refine mw_go mu_g168 (k := 1) (f1 := (203, [(3, .inl (0 : Int32)), (2, .inl x), (0, .inr (.inr (some 80))), (1, .inl (nI v))], [.inr (.inr (mu_r H31 m 3)), .inl (mu_i H31 (m + 9) 2), .inl (3 : Int32), .inl (nI v), .inr (.inr (some (m + 7)))], H31)) (C := [mu_is H31 (some m) 6]) rfl (show mu_is H31 (some m) 6 from hp31.im) ?_
          rw [hp31.r3]
          refine mw_go mu_g168 (k := 2) (f1 := (205, [(3, .inl (0 : Int32)), (2, .inl x), (0, .inr (.inr (some 80))), (1, .inl (nI v))], [.inl (2 : Int32), .inl (nI v), .inr (.inr (some (m + 7))), .inl (mu_i H31 (m + 9) 2), .inl (3 : Int32), .inl (nI v), .inr (.inr (some (m + 7)))], H31)) (C := []) rfl trivial ?_
          refine mw_cIe (fun _ => rfl) (show mu_is H31 (some (m + 7)) 10 from hp31.i3) (gi_get_ok (d := (d + 2)) (H := H31) hp31.1 hp31.w3 (nI v) (j := 2) (by decide)) ?_
          refine mw_go mu_g168 (k := 1) (f1 := (209, [(3, .inl (0 : Int32)), (2, .inl x), (0, .inr (.inr (some 80))), (1, .inl (nI v))], [.inl ((mu_i H31 (m + 9) 2) - (rw_get H31 (m + 7) 6 (gi_sz H31 (m + 7)) (nI v) 2)), .inl (3 : Int32), .inl (nI v), .inr (.inr (some (m + 7)))], H31)) (C := []) rfl trivial ?_
          refine mw_cV (fun _ => rfl) (show mu_is H31 (some (m + 7)) 10 from hp31.i3) (gi_set_ok (d := (d + 2)) hp31.1 hp31.w3 (nI v) ((mu_i H31 (m + 9) 2) - (rw_get H31 (m + 7) 6 (gi_sz H31 (m + 7)) (nI v) 2)) (j := 3) (by decide)) (fun H34 q34 => ?_)
          have qa34 : ab m H34 = tx 3 (ab m H31) (nI v) 3 ((mu_i H31 (m + 9) 2) - (rw_get H31 (m + 7) 6 (gi_sz H31 (m + 7)) (nI v) 2)) := by rw [q34]; exact ab_set hp31.1 hp31.2.1 (j := 3) (by decide)
          obtain ⟨hp34, qt34, qi34, qs34, qb34⟩ := ps_set (B := B) hp31 (j := 3) (row := (nI v)) (v := ((mu_i H31 (m + 9) 2) - (rw_get H31 (m + 7) 6 (gi_sz H31 (m + 7)) (nI v) 2))) hp31.w3 (by omega)
          rw [← q34] at hp34 qt34 qi34 qs34 qb34
          have ht34 := ht31.trans qt34
          have hn34 : vq v (ab m H) (ab m H31) := (by rw [ha31]; exact hcs.put)
          have ha34 : ab m H34 = (tx 3 (ab m H31) (nI v) 3 (nI ((ab m H31 4).1 - (ab m H 4).1))) := qa34.trans (by rw [show ((mu_i H31 (m + 9) 2) - (rw_get H31 (m + 7) 6 (gi_sz H31 (m + 7)) (nI v) 2)) = nI ((ab m H31 4).1 - (ab m H 4).1) from vq.val hp31 hn34])
          refine mw_go mu_g168 (k := 2) (f1 := (215, [(3, .inl (0 : Int32)), (2, .inl x), (0, .inr (.inr (some 80))), (1, .inl (nI v))], [.inl (67 : Int32), .inr (.inr (some 80))], H34)) (C := []) rfl trivial ?_
          refine mw_cI (fun _ => rfl) (show mu_is H34 (some 80) 7 from hp34.1.is rfl) (pb_take (d := d) (B := B) hp34 (67 : Int32) (by decide)) (fun x35 H35 q35 => ?_)
          rcases q35 with ⟨rfl, rfl, qe35⟩ | ⟨rfl, hp35, qt35, qk35, qb35, qe35, qa35⟩
          · -- (0 : Int32)
            exact mw_of (fun _ => mu_ret rfl (Or.inl rfl) ⟨_, H34, rfl, Or.inl ⟨rfl, hp34, ht34, by omega⟩⟩)
          · -- (1 : Int32)
            have ht35 := ht34.trans qt35
            have qs35 : gi_sz H35 89 = gi_sz H34 89 := qk35.2
            have ha35 : ab m H35 = (tx 3 (ab m H31) (nI v) 3 (nI ((ab m H31 4).1 - (ab m H 4).1))) := qa35.trans (by rw [ha34])
            exact mw_of (fun _ => mu_ret rfl (Or.inr rfl) ⟨_, H35, rfl, Or.inr ⟨rfl, hp35, ht35, by omega, (by rw [ha35]; exact hn34.fin (ab_lt hp31 rfl (by decide))), (show ∀ j, 6 ≤ j → mu_i H35 80 j = mu_i H 80 j from (fun j hj => by rw [qk35.1 j (by omega)]; rw [qi34]; rw [qk31.1 j (by omega)]; rw [qi30]; rw [qi29]; rw [qk4.1 j (by omega)]; rw [his j (by omega)]))⟩⟩)
      · -- 111: not (mu_i H4 80 4) = (112 : Int32)
        refine mw_go mu_g168 (k := 3) (f1 := (117, [(3, .inl (0 : Int32)), (2, .inl x), (0, .inr (.inr (some 80))), (1, .inl (nI v))], [.inl (113 : Int32), .inl (mu_i H4 80 4)], H4)) (C := [mu_is H4 (some 80) 7]) rfl (show mu_is H4 (some 80) 7 from hp4.1.is rfl) ?_
        refine mw_if (P := (mu_i H4 80 4) = (113 : Int32)) (a := 120) (b := 153) (fun _ => rfl) trivial (fun h36 => ?_) (fun h36 => ?_)
        · -- 120: (mu_i H4 80 4) = (113 : Int32)
          refine mw_go mu_g168 (k := 2) (f1 := (124, [(3, .inl (0 : Int32)), (2, .inl x), (0, .inr (.inr (some 80))), (1, .inl (nI v))], [.inr (.inr (mu_r H4 80 2))], H4)) (C := [mu_is H4 (some 80) 7]) rfl (show mu_is H4 (some 80) 7 from hp4.1.is rfl) ?_
          rw [hp4.m80]
          refine mw_go mu_g168 (k := 1) (f1 := (127, [(3, .inl (0 : Int32)), (2, .inl x), (0, .inr (.inr (some 80))), (1, .inl (nI v))], [.inr (.inr (mu_r H4 m 4))], H4)) (C := [mu_is H4 (some m) 6]) rfl (show mu_is H4 (some m) 6 from hp4.im) ?_
          rw [hp4.r4]
          refine mw_go mu_g168 (k := 1) (f1 := (128, [(3, .inl (0 : Int32)), (2, .inl x), (0, .inr (.inr (some 80))), (1, .inl (nI v))], [.inl (0 : Int32), .inr (.inr (some (m + 9)))], H4)) (C := []) rfl trivial ?_
          refine mw_if (P := (0 : Int32) = 0) (a := 139) (b := 131) (fun _ => rfl) trivial (fun h37 => ?_) (fun h37 => absurd (by decide) h37)
          refine mw_go mu_g168 (k := 5) (f1 := (146, [(3, .inl (0 : Int32)), (2, .inl x), (0, .inr (.inr (some 80))), (1, .inl (nI v))], [.inl (0 : Int32), .inl (0 : Int32), .inl (0 : Int32), .inl (mu_i H4 80 5), .inr (.inr (some (m + 9)))], H4)) (C := [mu_is H4 (some 80) 7]) rfl (show mu_is H4 (some 80) 7 from hp4.1.is rfl) ?_
          refine mw_cI (fun _ => rfl) (show mu_is H4 (some (m + 9)) 10 from hp4.i4) (pb_put4 (d := d) (B := B) hp4 (by omega) (mu_i H4 80 5) (0 : Int32) (0 : Int32) (0 : Int32)) (fun x38 H38 q38 => ?_)
          obtain ⟨hp38, qt38, qx38, qi38, qs38, qb38, qa38⟩ := q38
          obtain rfl : x38 = nI ((ab m Hs) 4).1 := by rw [← ha4]; exact qx38
          have ht38 := ht4.trans qt38
          have ha38 : ab m H38 = (tp 4 (ab m Hs) (mu_i H4 80 5) (0 : Int32) (0 : Int32) (0 : Int32)) := qa38.trans (by rw [ha4])
          refine mw_go mu_g168 (k := 3) (f1 := (156, [(3, .inl (0 : Int32)), (2, .inl x), (0, .inr (.inr (some 80))), (1, .inl (nI v))], [.inr (.inr (some 80))], H38)) (C := []) rfl trivial ?_
          refine mw_cV (fun _ => rfl) (show mu_is H38 (some 80) 7 from hp38.1.is rfl) (pb_adv (d := (d + 1)) (B := B) hp38) (fun H39 q39 => ?_)
          obtain ⟨⟨hp39, qt39, qk39, qb39, qc39⟩, qa39⟩ := q39
          have ht39 := ht38.trans qt39
          have qs39 : gi_sz H39 89 = gi_sz H38 89 := qk39.2
          have ha39 : ab m H39 = (tp 4 (ab m Hs) (mu_i H4 80 5) (0 : Int32) (0 : Int32) (0 : Int32)) := qa39.trans (by rw [ha38])
          have qd39 := qc39 (show mu_i H38 80 4 < 114 from (by rw [(qi38 4)]; exact (show (mu_i H4 80 4) < 114 from (by rw [h36]; decide))))
          refine mw_go mu_g168 (k := 3) (f1 := (165, [(3, .inl (0 : Int32)), (2, .inl x), (0, .inr (.inr (some 80))), (1, .inl (nI v))], [.inl (70 : Int32), .inl (mu_i H39 80 4)], H39)) (C := [mu_is H39 (some 80) 7]) rfl (show mu_is H39 (some 80) 7 from hp39.1.is rfl) ?_
          refine mw_if (P := (mu_i H39 80 4) = (70 : Int32)) (a := 171) (b := 168) (fun _ => rfl) trivial (fun h40 => ?_) (fun h40 => ?_)
          · -- 171: (mu_i H39 80 4) = (70 : Int32)
            refine mw_go mu_g168 (k := 2) (f1 := (37, [(2, .inl (x + 1)), (3, .inl (0 : Int32)), (0, .inr (.inr (some 80))), (1, .inl (nI v))], [], H39)) (C := []) rfl trivial ?_
            have hk : ∀ j, 6 ≤ j → mu_i H39 80 j = mu_i H 80 j := (fun j hj => by rw [qk39.1 j (by omega)]; rw [qi38]; rw [qk4.1 j (by omega)]; rw [his j (by omega)])
            exact mw_sub (by simp) (ih ((x + 1), H39) ⟨hp39, ht39, hk, (show ps_pot m H39 ≤ ps_pot m H from by omega), (show mu_i H39 80 4 < 114 from (show mu_i H39 80 4 < 114 from (show (mu_i H39 80 4) < 114 from (by rw [h40]; decide)))), (show vq v (ab m H) (ab m H39) from (by rw [ha39]; exact hcs.put))⟩ (by show ps_pot m H39 < ps_pot m Hs; omega))
          · -- 168: not (mu_i H39 80 4) = (70 : Int32)
            refine mw_go mu_g168 (k := 3) (f1 := (181, [(3, .inl (0 : Int32)), (2, .inl x), (0, .inr (.inr (some 80))), (1, .inl (nI v))], [.inr (.inr (mu_r H39 80 2))], H39)) (C := [mu_is H39 (some 80) 7]) rfl (show mu_is H39 (some 80) 7 from hp39.1.is rfl) ?_
            rw [hp39.m80]
            refine mw_go mu_g168 (k := 1) (f1 := (184, [(3, .inl (0 : Int32)), (2, .inl x), (0, .inr (.inr (some 80))), (1, .inl (nI v))], [.inr (.inr (mu_r H39 m 3))], H39)) (C := [mu_is H39 (some m) 6]) rfl (show mu_is H39 (some m) 6 from hp39.im) ?_
            rw [hp39.r3]
            refine mw_go mu_g168 (k := 4) (f1 := (190, [(3, .inl (0 : Int32)), (2, .inl x), (0, .inr (.inr (some 80))), (1, .inl (nI v))], [.inr (.inr (mu_r H39 80 2)), .inl (3 : Int32), .inl (nI v), .inr (.inr (some (m + 7)))], H39)) (C := [mu_is H39 (some 80) 7]) rfl (show mu_is H39 (some 80) 7 from hp39.1.is rfl) ?_
            rw [hp39.m80]
            refine mw_go mu_g168 (k := 1) (f1 := (193, [(3, .inl (0 : Int32)), (2, .inl x), (0, .inr (.inr (some 80))), (1, .inl (nI v))], [.inr (.inr (mu_r H39 m 4)), .inl (3 : Int32), .inl (nI v), .inr (.inr (some (m + 7)))], H39)) (C := [mu_is H39 (some m) 6]) rfl (show mu_is H39 (some m) 6 from hp39.im) ?_
            rw [hp39.r4]
            refine mw_go mu_g168 (k := 3) (f1 := (200, [(3, .inl (0 : Int32)), (2, .inl x), (0, .inr (.inr (some 80))), (1, .inl (nI v))], [.inr (.inr (mu_r H39 80 2)), .inl (mu_i H39 (m + 9) 2), .inl (3 : Int32), .inl (nI v), .inr (.inr (some (m + 7)))], H39)) (C := [mu_is H39 (some (m + 9)) 10, mu_is H39 (some 80) 7]) rfl (show (mu_is H39 (some (m + 9)) 10) ∧ (mu_is H39 (some 80) 7) from ⟨hp39.i4, hp39.1.is rfl⟩) ?_
            rw [hp39.m80]
            refine mw_go mu_g168 (k := 1) (f1 := (203, [(3, .inl (0 : Int32)), (2, .inl x), (0, .inr (.inr (some 80))), (1, .inl (nI v))], [.inr (.inr (mu_r H39 m 3)), .inl (mu_i H39 (m + 9) 2), .inl (3 : Int32), .inl (nI v), .inr (.inr (some (m + 7)))], H39)) (C := [mu_is H39 (some m) 6]) rfl (show mu_is H39 (some m) 6 from hp39.im) ?_
            rw [hp39.r3]
            refine mw_go mu_g168 (k := 2) (f1 := (205, [(3, .inl (0 : Int32)), (2, .inl x), (0, .inr (.inr (some 80))), (1, .inl (nI v))], [.inl (2 : Int32), .inl (nI v), .inr (.inr (some (m + 7))), .inl (mu_i H39 (m + 9) 2), .inl (3 : Int32), .inl (nI v), .inr (.inr (some (m + 7)))], H39)) (C := []) rfl trivial ?_
            refine mw_cIe (fun _ => rfl) (show mu_is H39 (some (m + 7)) 10 from hp39.i3) (gi_get_ok (d := (d + 2)) (H := H39) hp39.1 hp39.w3 (nI v) (j := 2) (by decide)) ?_
            refine mw_go mu_g168 (k := 1) (f1 := (209, [(3, .inl (0 : Int32)), (2, .inl x), (0, .inr (.inr (some 80))), (1, .inl (nI v))], [.inl ((mu_i H39 (m + 9) 2) - (rw_get H39 (m + 7) 6 (gi_sz H39 (m + 7)) (nI v) 2)), .inl (3 : Int32), .inl (nI v), .inr (.inr (some (m + 7)))], H39)) (C := []) rfl trivial ?_
            refine mw_cV (fun _ => rfl) (show mu_is H39 (some (m + 7)) 10 from hp39.i3) (gi_set_ok (d := (d + 2)) hp39.1 hp39.w3 (nI v) ((mu_i H39 (m + 9) 2) - (rw_get H39 (m + 7) 6 (gi_sz H39 (m + 7)) (nI v) 2)) (j := 3) (by decide)) (fun H42 q42 => ?_)
            have qa42 : ab m H42 = tx 3 (ab m H39) (nI v) 3 ((mu_i H39 (m + 9) 2) - (rw_get H39 (m + 7) 6 (gi_sz H39 (m + 7)) (nI v) 2)) := by rw [q42]; exact ab_set hp39.1 hp39.2.1 (j := 3) (by decide)
            obtain ⟨hp42, qt42, qi42, qs42, qb42⟩ := ps_set (B := B) hp39 (j := 3) (row := (nI v)) (v := ((mu_i H39 (m + 9) 2) - (rw_get H39 (m + 7) 6 (gi_sz H39 (m + 7)) (nI v) 2))) hp39.w3 (by omega)
            rw [← q42] at hp42 qt42 qi42 qs42 qb42
            have ht42 := ht39.trans qt42
            have hn42 : vq v (ab m H) (ab m H39) := (by rw [ha39]; exact hcs.put)
            have ha42 : ab m H42 = (tx 3 (ab m H39) (nI v) 3 (nI ((ab m H39 4).1 - (ab m H 4).1))) := qa42.trans (by rw [show ((mu_i H39 (m + 9) 2) - (rw_get H39 (m + 7) 6 (gi_sz H39 (m + 7)) (nI v) 2)) = nI ((ab m H39 4).1 - (ab m H 4).1) from vq.val hp39 hn42])
            refine mw_go mu_g168 (k := 2) (f1 := (215, [(3, .inl (0 : Int32)), (2, .inl x), (0, .inr (.inr (some 80))), (1, .inl (nI v))], [.inl (67 : Int32), .inr (.inr (some 80))], H42)) (C := []) rfl trivial ?_
            refine mw_cI (fun _ => rfl) (show mu_is H42 (some 80) 7 from hp42.1.is rfl) (pb_take (d := d) (B := B) hp42 (67 : Int32) (by decide)) (fun x43 H43 q43 => ?_)
            rcases q43 with ⟨rfl, rfl, qe43⟩ | ⟨rfl, hp43, qt43, qk43, qb43, qe43, qa43⟩
            · -- (0 : Int32)
              exact mw_of (fun _ => mu_ret rfl (Or.inl rfl) ⟨_, H42, rfl, Or.inl ⟨rfl, hp42, ht42, by omega⟩⟩)
            · -- (1 : Int32)
              have ht43 := ht42.trans qt43
              have qs43 : gi_sz H43 89 = gi_sz H42 89 := qk43.2
              have ha43 : ab m H43 = (tx 3 (ab m H39) (nI v) 3 (nI ((ab m H39 4).1 - (ab m H 4).1))) := qa43.trans (by rw [ha42])
              exact mw_of (fun _ => mu_ret rfl (Or.inr rfl) ⟨_, H43, rfl, Or.inr ⟨rfl, hp43, ht43, by omega, (by rw [ha43]; exact hn42.fin (ab_lt hp39 rfl (by decide))), (show ∀ j, 6 ≤ j → mu_i H43 80 j = mu_i H 80 j from (fun j hj => by rw [qk43.1 j (by omega)]; rw [qi42]; rw [qk39.1 j (by omega)]; rw [qi38]; rw [qk4.1 j (by omega)]; rw [his j (by omega)]))⟩⟩)
        · -- 153: not (mu_i H4 80 4) = (113 : Int32)
          refine mw_go mu_g168 (k := 1) (f1 := (154, [(3, .inl (0 : Int32)), (2, .inl x), (0, .inr (.inr (some 80))), (1, .inl (nI v))], [.inl (0 : Int32)], H4)) (C := []) rfl trivial ?_
          exact mw_of (fun _ => mu_ret rfl (Or.inl rfl) ⟨_, H4, rfl, Or.inl ⟨rfl, hp4, ht4, by omega⟩⟩)
  · -- 177: not x < (65536 : Int32)
    refine mw_go mu_g168 (k := 2) (f1 := (181, [(2, .inl x), (0, .inr (.inr (some 80))), (1, .inl (nI v))], [.inr (.inr (mu_r Hs 80 2))], Hs)) (C := [mu_is Hs (some 80) 7]) rfl (show mu_is Hs (some 80) 7 from hps.1.is rfl) ?_
    rw [hps.m80]
    refine mw_go mu_g168 (k := 1) (f1 := (184, [(2, .inl x), (0, .inr (.inr (some 80))), (1, .inl (nI v))], [.inr (.inr (mu_r Hs m 3))], Hs)) (C := [mu_is Hs (some m) 6]) rfl (show mu_is Hs (some m) 6 from hps.im) ?_
    rw [hps.r3]
    refine mw_go mu_g168 (k := 4) (f1 := (190, [(2, .inl x), (0, .inr (.inr (some 80))), (1, .inl (nI v))], [.inr (.inr (mu_r Hs 80 2)), .inl (3 : Int32), .inl (nI v), .inr (.inr (some (m + 7)))], Hs)) (C := [mu_is Hs (some 80) 7]) rfl (show mu_is Hs (some 80) 7 from hps.1.is rfl) ?_
    rw [hps.m80]
    refine mw_go mu_g168 (k := 1) (f1 := (193, [(2, .inl x), (0, .inr (.inr (some 80))), (1, .inl (nI v))], [.inr (.inr (mu_r Hs m 4)), .inl (3 : Int32), .inl (nI v), .inr (.inr (some (m + 7)))], Hs)) (C := [mu_is Hs (some m) 6]) rfl (show mu_is Hs (some m) 6 from hps.im) ?_
    rw [hps.r4]
    refine mw_go mu_g168 (k := 3) (f1 := (200, [(2, .inl x), (0, .inr (.inr (some 80))), (1, .inl (nI v))], [.inr (.inr (mu_r Hs 80 2)), .inl (mu_i Hs (m + 9) 2), .inl (3 : Int32), .inl (nI v), .inr (.inr (some (m + 7)))], Hs)) (C := [mu_is Hs (some (m + 9)) 10, mu_is Hs (some 80) 7]) rfl (show (mu_is Hs (some (m + 9)) 10) ∧ (mu_is Hs (some 80) 7) from ⟨hps.i4, hps.1.is rfl⟩) ?_
    rw [hps.m80]
    refine mw_go mu_g168 (k := 1) (f1 := (203, [(2, .inl x), (0, .inr (.inr (some 80))), (1, .inl (nI v))], [.inr (.inr (mu_r Hs m 3)), .inl (mu_i Hs (m + 9) 2), .inl (3 : Int32), .inl (nI v), .inr (.inr (some (m + 7)))], Hs)) (C := [mu_is Hs (some m) 6]) rfl (show mu_is Hs (some m) 6 from hps.im) ?_
    rw [hps.r3]
    refine mw_go mu_g168 (k := 2) (f1 := (205, [(2, .inl x), (0, .inr (.inr (some 80))), (1, .inl (nI v))], [.inl (2 : Int32), .inl (nI v), .inr (.inr (some (m + 7))), .inl (mu_i Hs (m + 9) 2), .inl (3 : Int32), .inl (nI v), .inr (.inr (some (m + 7)))], Hs)) (C := []) rfl trivial ?_
    refine mw_cIe (fun _ => rfl) (show mu_is Hs (some (m + 7)) 10 from hps.i3) (gi_get_ok (d := (d + 2)) (H := Hs) hps.1 hps.w3 (nI v) (j := 2) (by decide)) ?_
    refine mw_go mu_g168 (k := 1) (f1 := (209, [(2, .inl x), (0, .inr (.inr (some 80))), (1, .inl (nI v))], [.inl ((mu_i Hs (m + 9) 2) - (rw_get Hs (m + 7) 6 (gi_sz Hs (m + 7)) (nI v) 2)), .inl (3 : Int32), .inl (nI v), .inr (.inr (some (m + 7)))], Hs)) (C := []) rfl trivial ?_
    refine mw_cV (fun _ => rfl) (show mu_is Hs (some (m + 7)) 10 from hps.i3) (gi_set_ok (d := (d + 2)) hps.1 hps.w3 (nI v) ((mu_i Hs (m + 9) 2) - (rw_get Hs (m + 7) 6 (gi_sz Hs (m + 7)) (nI v) 2)) (j := 3) (by decide)) (fun H45 q45 => ?_)
    have qa45 : ab m H45 = tx 3 (ab m Hs) (nI v) 3 ((mu_i Hs (m + 9) 2) - (rw_get Hs (m + 7) 6 (gi_sz Hs (m + 7)) (nI v) 2)) := by rw [q45]; exact ab_set hps.1 hps.2.1 (j := 3) (by decide)
    obtain ⟨hp45, qt45, qi45, qs45, qb45⟩ := ps_set (B := B) hps (j := 3) (row := (nI v)) (v := ((mu_i Hs (m + 9) 2) - (rw_get Hs (m + 7) 6 (gi_sz Hs (m + 7)) (nI v) 2))) hps.w3 (by omega)
    rw [← q45] at hp45 qt45 qi45 qs45 qb45
    have ht45 := hts.trans qt45
    have hn45 : vq v (ab m H) (ab m Hs) := hcs
    have ha45 : ab m H45 = (tx 3 (ab m Hs) (nI v) 3 (nI ((ab m Hs 4).1 - (ab m H 4).1))) := qa45.trans (by rw [show ((mu_i Hs (m + 9) 2) - (rw_get Hs (m + 7) 6 (gi_sz Hs (m + 7)) (nI v) 2)) = nI ((ab m Hs 4).1 - (ab m H 4).1) from vq.val hps hn45])
    refine mw_go mu_g168 (k := 2) (f1 := (215, [(2, .inl x), (0, .inr (.inr (some 80))), (1, .inl (nI v))], [.inl (67 : Int32), .inr (.inr (some 80))], H45)) (C := []) rfl trivial ?_
    refine mw_cI (fun _ => rfl) (show mu_is H45 (some 80) 7 from hp45.1.is rfl) (pb_take (d := d) (B := B) hp45 (67 : Int32) (by decide)) (fun x46 H46 q46 => ?_)
    rcases q46 with ⟨rfl, rfl, qe46⟩ | ⟨rfl, hp46, qt46, qk46, qb46, qe46, qa46⟩
    · -- (0 : Int32)
      exact mw_of (fun _ => mu_ret rfl (Or.inl rfl) ⟨_, H45, rfl, Or.inl ⟨rfl, hp45, ht45, by omega⟩⟩)
    · -- (1 : Int32)
      have ht46 := ht45.trans qt46
      have qs46 : gi_sz H46 89 = gi_sz H45 89 := qk46.2
      have ha46 : ab m H46 = (tx 3 (ab m Hs) (nI v) 3 (nI ((ab m Hs 4).1 - (ab m H 4).1))) := qa46.trans (by rw [ha45])
      exact mw_of (fun _ => mu_ret rfl (Or.inr rfl) ⟨_, H46, rfl, Or.inr ⟨rfl, hp46, ht46, by omega, (by rw [ha46]; exact hn45.fin (ab_lt hps rfl (by decide))), (show ∀ j, 6 ≤ j → mu_i H46 80 j = mu_i H 80 j from (fun j hj => by rw [qk46.1 j (by omega)]; rw [qi45]; rw [his j (by omega)]))⟩⟩)
theorem pb_inst (h : ps m H) (hBB : B ≤ 1000000) (hB : ps_pot m H ≤ B + 95) {v : Nat} (hc0 : CT (ab m H)) (hl : lastv (ab m H) v 0) (hv02 : (ab m H 3).2 v 2 = 0) (hv03 : (ab m H 3).2 v 3 = 0) (hst0 : (ab m H 11).1 = 0) (hm0 : mu_i H 80 6 = 2) (hk0 : mu_i H 80 4 = 112) : mu_TI (mu_D (d + 6)) 167 [.inr (.inr (some 80)), .inl (nI v)] H (fun x H1 => (x = 0 ∧ ps m H1 ∧ pt m B H H1 ∧ ps_pot m H1 ≤ ps_pot m H + 40) ∨ (x = 1 ∧ ps m H1 ∧ pt m B H H1 ∧ ps_pot m H1 + 8 ≤ ps_pot m H ∧ PC m H1)) := by
  refine mu_meth (M := mu_m167) rfl rfl ?_
  refine mw_ht (mu_fn_of (show [0, 1].Nodup by decide)) ?_
  refine mw_go mu_g167 (k := 2) (f1 := (4, [(0, .inr (.inr (some 80))), (1, .inl (nI v))], [.inr (.inr (mu_r H 80 2))], H)) (C := [mu_is H (some 80) 7]) rfl (show mu_is H (some 80) 7 from h.1.is rfl) ?_
  rw [h.m80]
  refine mw_go mu_g167 (k := 1) (f1 := (7, [(0, .inr (.inr (some 80))), (1, .inl (nI v))], [.inr (.inr (mu_r H m 3))], H)) (C := [mu_is H (some m) 6]) rfl (show mu_is H (some m) 6 from h.im) ?_
  rw [h.r3]
  refine mw_go mu_g167 (k := 3) (f1 := (10, [(0, .inr (.inr (some 80))), (1, .inl (nI v))], [.inl (3 : Int32), .inl (1 : Int32), .inl (nI v), .inr (.inr (some (m + 7)))], H)) (C := []) rfl trivial ?_
  refine mw_cV (fun _ => rfl) (show mu_is H (some (m + 7)) 10 from h.i3) (gi_set_ok (d := (d + 4)) h.1 h.w3 (nI v) (3 : Int32) (j := 1) (by decide)) (fun H1 q1 => ?_)
  have qa1 : ab m H1 = tx 3 (ab m H) (nI v) 1 (3 : Int32) := by rw [q1]; exact ab_set h.1 h.2.1 (j := 3) (by decide)
  obtain ⟨hp1, qt1, qi1, qs1, qb1⟩ := ps_set (B := B) h (j := 1) (row := (nI v)) (v := (3 : Int32)) h.w3 (by omega)
  rw [← q1] at hp1 qt1 qi1 qs1 qb1
  have ht1 := (pt.refl m B H).trans qt1
  have ha1 : ab m H1 = (tx 3 (ab m H) (nI v) 1 (3 : Int32)) := qa1
  refine mw_go mu_g167 (k := 2) (f1 := (17, [(0, .inr (.inr (some 80))), (1, .inl (nI v))], [.inr (.inr (mu_r H1 80 2))], H1)) (C := [mu_is H1 (some 80) 7]) rfl (show mu_is H1 (some 80) 7 from hp1.1.is rfl) ?_
  rw [hp1.m80]
  refine mw_go mu_g167 (k := 1) (f1 := (20, [(0, .inr (.inr (some 80))), (1, .inl (nI v))], [.inr (.inr (mu_r H1 m 3))], H1)) (C := [mu_is H1 (some m) 6]) rfl (show mu_is H1 (some m) 6 from hp1.im) ?_
  rw [hp1.r3]
  refine mw_go mu_g167 (k := 4) (f1 := (26, [(0, .inr (.inr (some 80))), (1, .inl (nI v))], [.inl (mu_i H1 80 5), .inl (4 : Int32), .inl (nI v), .inr (.inr (some (m + 7)))], H1)) (C := [mu_is H1 (some 80) 7]) rfl (show mu_is H1 (some 80) 7 from hp1.1.is rfl) ?_
  rw [(qi1 5)]
  refine mw_cV (fun _ => rfl) (show mu_is H1 (some (m + 7)) 10 from hp1.i3) (gi_set_ok (d := (d + 4)) hp1.1 hp1.w3 (nI v) (mu_i H 80 5) (j := 4) (by decide)) (fun H2 q2 => ?_)
  have qa2 : ab m H2 = tx 3 (ab m H1) (nI v) 4 (mu_i H 80 5) := by rw [q2]; exact ab_set hp1.1 hp1.2.1 (j := 3) (by decide)
  obtain ⟨hp2, qt2, qi2, qs2, qb2⟩ := ps_set (B := B) hp1 (j := 4) (row := (nI v)) (v := (mu_i H 80 5)) hp1.w3 (by omega)
  rw [← q2] at hp2 qt2 qi2 qs2 qb2
  have ht2 := ht1.trans qt2
  have ha2 : ab m H2 = (tx 3 (tx 3 (ab m H) (nI v) 1 (3 : Int32)) (nI v) 4 (mu_i H 80 5)) := qa2.trans (by rw [ha1])
  refine mw_go mu_g167 (k := 2) (f1 := (33, [(0, .inr (.inr (some 80))), (1, .inl (nI v))], [.inr (.inr (mu_r H2 80 2))], H2)) (C := [mu_is H2 (some 80) 7]) rfl (show mu_is H2 (some 80) 7 from hp2.1.is rfl) ?_
  rw [hp2.m80]
  refine mw_go mu_g167 (k := 1) (f1 := (36, [(0, .inr (.inr (some 80))), (1, .inl (nI v))], [.inr (.inr (mu_r H2 m 3))], H2)) (C := [mu_is H2 (some m) 6]) rfl (show mu_is H2 (some m) 6 from hp2.im) ?_
  rw [hp2.r3]
  refine mw_go mu_g167 (k := 4) (f1 := (42, [(0, .inr (.inr (some 80))), (1, .inl (nI v))], [.inr (.inr (mu_r H2 80 2)), .inl (2 : Int32), .inl (nI v), .inr (.inr (some (m + 7)))], H2)) (C := [mu_is H2 (some 80) 7]) rfl (show mu_is H2 (some 80) 7 from hp2.1.is rfl) ?_
  rw [hp2.m80]
  refine mw_go mu_g167 (k := 1) (f1 := (45, [(0, .inr (.inr (some 80))), (1, .inl (nI v))], [.inr (.inr (mu_r H2 m 5)), .inl (2 : Int32), .inl (nI v), .inr (.inr (some (m + 7)))], H2)) (C := [mu_is H2 (some m) 6]) rfl (show mu_is H2 (some m) 6 from hp2.im) ?_
  rw [hp2.r5]
  refine mw_go mu_g167 (k := 1) (f1 := (48, [(0, .inr (.inr (some 80))), (1, .inl (nI v))], [.inl (mu_i H2 (m + 11) 2), .inl (2 : Int32), .inl (nI v), .inr (.inr (some (m + 7)))], H2)) (C := [mu_is H2 (some (m + 11)) 10]) rfl (show mu_is H2 (some (m + 11)) 10 from hp2.i5) ?_
  refine mw_cV (fun _ => rfl) (show mu_is H2 (some (m + 7)) 10 from hp2.i3) (gi_set_ok (d := (d + 4)) hp2.1 hp2.w3 (nI v) (mu_i H2 (m + 11) 2) (j := 2) (by decide)) (fun H3 q3 => ?_)
  have qa3 : ab m H3 = tx 3 (ab m H2) (nI v) 2 (mu_i H2 (m + 11) 2) := by rw [q3]; exact ab_set hp2.1 hp2.2.1 (j := 3) (by decide)
  obtain ⟨hp3, qt3, qi3, qs3, qb3⟩ := ps_set (B := B) hp2 (j := 2) (row := (nI v)) (v := (mu_i H2 (m + 11) 2)) hp2.w3 (by omega)
  rw [← q3] at hp3 qt3 qi3 qs3 qb3
  have ht3 := ht2.trans qt3
  have ha3 : ab m H3 = (tx 3 (tx 3 (tx 3 (ab m H) (nI v) 1 (3 : Int32)) (nI v) 4 (mu_i H 80 5)) (nI v) 2 (nI ((tx 3 (tx 3 (ab m H) (nI v) 1 (3 : Int32)) (nI v) 4 (mu_i H 80 5)) 5).1)) := qa3.trans (by rw [ha2, (show mu_i H2 (m + 11) 2 = nI ((tx 3 (tx 3 (ab m H) (nI v) 1 (3 : Int32)) (nI v) 4 (mu_i H 80 5)) 5).1 from sz_n hp2 ha2 (j := 5) (by decide))])
  refine mw_go mu_g167 (k := 1) (f1 := (52, [(0, .inr (.inr (some 80))), (1, .inl (nI v))], [.inr (.inr (some 80))], H3)) (C := []) rfl trivial ?_
  refine mw_cV (fun _ => rfl) (show mu_is H3 (some 80) 7 from hp3.1.is rfl) (pb_adv (d := (d + 3)) (B := B) hp3) (fun H4 q4 => ?_)
  obtain ⟨⟨hp4, qt4, qk4, qb4, qc4⟩, qa4⟩ := q4
  have ht4 := ht3.trans qt4
  have qs4 : gi_sz H4 89 = gi_sz H3 89 := qk4.2
  have ha4 : ab m H4 = (tx 3 (tx 3 (tx 3 (ab m H) (nI v) 1 (3 : Int32)) (nI v) 4 (mu_i H 80 5)) (nI v) 2 (nI ((tx 3 (tx 3 (ab m H) (nI v) 1 (3 : Int32)) (nI v) 4 (mu_i H 80 5)) 5).1)) := qa4.trans (by rw [ha3])
  have qd4 := qc4 (show mu_i H3 80 4 < 114 from (by rw [((qi3 4).trans ((qi2 4).trans (qi1 4)))]; exact (show (mu_i H 80 4) < 114 from (by rw [hk0]; decide))))
  refine mw_go mu_g167 (k := 3) (f1 := (61, [(0, .inr (.inr (some 80))), (1, .inl (nI v))], [.inl (64 : Int32), .inl (mu_i H4 80 4)], H4)) (C := [mu_is H4 (some 80) 7]) rfl (show mu_is H4 (some 80) 7 from hp4.1.is rfl) ?_
  refine mw_if (P := (mu_i H4 80 4) = (64 : Int32)) (a := 71) (b := 64) (fun _ => rfl) trivial (fun h5 => ?_) (fun h5 => ?_)
  · -- 71: (mu_i H4 80 4) = (64 : Int32)
    refine mw_go mu_g167 (k := 1) (f1 := (72, [(0, .inr (.inr (some 80))), (1, .inl (nI v))], [.inr (.inr (some 80))], H4)) (C := []) rfl trivial ?_
    refine mw_cV (fun _ => rfl) (show mu_is H4 (some 80) 7 from hp4.1.is rfl) (pb_adv (d := (d + 3)) (B := B) hp4) (fun H6 q6 => ?_)
    obtain ⟨⟨hp6, qt6, qk6, qb6, qc6⟩, qa6⟩ := q6
    have ht6 := ht4.trans qt6
    have qs6 : gi_sz H6 89 = gi_sz H4 89 := qk6.2
    have ha6 : ab m H6 = (tx 3 (tx 3 (tx 3 (ab m H) (nI v) 1 (3 : Int32)) (nI v) 4 (mu_i H 80 5)) (nI v) 2 (nI ((tx 3 (tx 3 (ab m H) (nI v) 1 (3 : Int32)) (nI v) 4 (mu_i H 80 5)) 5).1)) := qa6.trans (by rw [ha4])
    have qd6 := qc6 (show mu_i H4 80 4 < 114 from (show (mu_i H4 80 4) < 114 from (by rw [h5]; decide)))
    refine mw_go mu_g167 (k := 4) (f1 := (80, [(0, .inr (.inr (some 80))), (1, .inl (nI v))], [.inl (5 : Int32), .inl (nI v), .inl (42 : Int32), .inr (.inr (some 80))], H6)) (C := []) rfl trivial ?_
    refine mw_cI (fun _ => rfl) (show mu_is H6 (some 80) 7 from hp6.1.is rfl) (pb_start (d := d) (B := B) hp6 hBB (by omega) (42 : Int32) (nI v) (5 : Int32) ⟨42, by decide, rfl⟩) (fun x7 H7 q7 => ?_)
    rcases q7 with ⟨rfl, hp7, qt7, qi7, qs7, qb7, qm7, q9_7, qa7⟩
    · -- (1 : Int32)
      have ht7 := ht6.trans qt7
      have hc7 : ps_mp (mu_i H6 80 6) = 0 := by rw [show mu_i H6 80 6 = (2 : Int32) from ((qk6.1 6 (by decide)).trans ((qk4.1 6 (by decide)).trans ((qi3 6).trans ((qi2 6).trans ((qi1 6).trans hm0)))))]; rfl
      have ha7 : ab m H7 = (tp 11 (tx 3 (tx 3 (tx 3 (ab m H) (nI v) 1 (3 : Int32)) (nI v) 4 (mu_i H 80 5)) (nI v) 2 (nI ((tx 3 (tx 3 (ab m H) (nI v) 1 (3 : Int32)) (nI v) 4 (mu_i H 80 5)) 5).1)) (42 : Int32) (nI v) 0 0) := qa7.trans (by rw [ha6])
      have hw7 : ps_mp (5 : Int32) = 0 := rfl
      refine mw_go mu_g167 (k := 5) (f1 := (90, [(0, .inr (.inr (some 80))), (1, .inl (nI v))], [.inl (1 : Int32)], (mu_si H7 80 8 (1 : Int32)))) (C := [mu_is H7 (some 80) 7]) rfl (show mu_is H7 (some 80) 7 from hp7.1.is rfl) ?_
      have hp8 : ps m (mu_si H7 80 8 (1 : Int32)) := hp7.si (by decide) (by decide)
      have ht8 : pt m B H (mu_si H7 80 8 (1 : Int32)) := ht7.trans (pt.si hp7)
      have ha8 : ab m (mu_si H7 80 8 (1 : Int32)) = (tp 11 (tx 3 (tx 3 (tx 3 (ab m H) (nI v) 1 (3 : Int32)) (nI v) 4 (mu_i H 80 5)) (nI v) 2 (nI ((tx 3 (tx 3 (ab m H) (nI v) 1 (3 : Int32)) (nI v) 4 (mu_i H 80 5)) 5).1)) (42 : Int32) (nI v) 0 0) := (ab_si hp7.1 hp7.2.1).trans ha7
      have hb8 : ps_pot m (mu_si H7 80 8 (1 : Int32)) = ps_pot m H7 := ps_potj hp7 (1 : Int32) (by decide) (by decide)
      have hs8 : gi_sz (mu_si H7 80 8 (1 : Int32)) 89 = gi_sz H7 89 := rfl
      have hi9_3 : mu_i (mu_si H7 80 8 (1 : Int32)) 80 3 = (mu_i H6 80 3) := (qi7 3 (by decide))
      have hi9_4 : mu_i (mu_si H7 80 8 (1 : Int32)) 80 4 = (mu_i H6 80 4) := (qi7 4 (by decide))
      have hi9_5 : mu_i (mu_si H7 80 8 (1 : Int32)) 80 5 = (mu_i H6 80 5) := (qi7 5 (by decide))
      have hi9_6 : mu_i (mu_si H7 80 8 (1 : Int32)) 80 6 = (5 : Int32) := qm7
      have hi9_7 : mu_i (mu_si H7 80 8 (1 : Int32)) 80 7 = (mu_i H 80 7) := ((qi7 7 (by decide)).trans ((qk6.1 7 (by decide)).trans ((qk4.1 7 (by decide)).trans ((qi3 7).trans ((qi2 7).trans (qi1 7))))))
      have hi9_9 : mu_i (mu_si H7 80 8 (1 : Int32)) 80 9 = (nI ((tx 3 (tx 3 (tx 3 (ab m H) (nI v) 1 (3 : Int32)) (nI v) 4 (mu_i H 80 5)) (nI v) 2 (nI ((tx 3 (tx 3 (ab m H) (nI v) 1 (3 : Int32)) (nI v) 4 (mu_i H 80 5)) 5).1)) 0).1) := (q9_7.trans (sz_n hp6 ha6 (j := 0) (by decide)))
      have hi9_10 : mu_i (mu_si H7 80 8 (1 : Int32)) 80 10 = (mu_i H 80 10) := ((qi7 10 (by decide)).trans ((qk6.1 10 (by decide)).trans ((qk4.1 10 (by decide)).trans ((qi3 10).trans ((qi2 10).trans (qi1 10))))))
      have hi9_11 : mu_i (mu_si H7 80 8 (1 : Int32)) 80 11 = (mu_i H 80 11) := ((qi7 11 (by decide)).trans ((qk6.1 11 (by decide)).trans ((qk4.1 11 (by decide)).trans ((qi3 11).trans ((qi2 11).trans (qi1 11))))))
      exact mw_of (fun _ => mu_ret rfl (Or.inr rfl) ⟨_, (mu_si H7 80 8 (1 : Int32)), rfl, Or.inr ⟨rfl, hp8, ht8, by omega, (PC_c (show mu_i (mu_si H7 80 8 (1 : Int32)) 80 6 = 5 from hi9_6) (show mu_i (mu_si H7 80 8 (1 : Int32)) 80 9 = _ from hi9_9) ha8 (cy_given (inst_c hc0 hl hv02 hv03).1 (Nat.le_of_succ_le (pot_0 (m := m) (H := H) (by omega))) (inst_c hc0 hl hv02 hv03).2.1 (inst_c hc0 hl hv02 hv03).2.2.1 (inst_c hc0 hl hv02 hv03).2.2.2 hst0) (Or.inl ⟨Or.inl rfl, rfl, rfl⟩))⟩⟩)
  · -- 64: not (mu_i H4 80 4) = (64 : Int32)
    refine mw_go mu_g167 (k := 2) (f1 := (67, [(0, .inr (.inr (some 80))), (1, .inl (nI v))], [.inl (71 : Int32), .inr (.inr (some 80))], H4)) (C := []) rfl trivial ?_
    refine mw_cI (fun _ => rfl) (show mu_is H4 (some 80) 7 from hp4.1.is rfl) (pb_take (d := (d + 2)) (B := B) hp4 (71 : Int32) (by decide)) (fun x10 H10 q10 => ?_)
    rcases q10 with ⟨rfl, rfl, qe10⟩ | ⟨rfl, hp10, qt10, qk10, qb10, qe10, qa10⟩
    · -- (0 : Int32)
      exact mw_of (fun _ => mu_ret rfl (Or.inl rfl) ⟨_, H4, rfl, Or.inl ⟨rfl, hp4, ht4, by omega⟩⟩)
    · -- (1 : Int32)
      have ht10 := ht4.trans qt10
      have qs10 : gi_sz H10 89 = gi_sz H4 89 := qk10.2
      have ha10 : ab m H10 = (tx 3 (tx 3 (tx 3 (ab m H) (nI v) 1 (3 : Int32)) (nI v) 4 (mu_i H 80 5)) (nI v) 2 (nI ((tx 3 (tx 3 (ab m H) (nI v) 1 (3 : Int32)) (nI v) 4 (mu_i H 80 5)) 5).1)) := qa10.trans (by rw [ha4])
      exact mw_of (fun _ => mu_ret rfl (Or.inr rfl) ⟨_, H10, rfl, Or.inr ⟨rfl, hp10, ht10, by omega, (PC_0 (show mu_i H10 80 6 = 2 from ((qk10.1 6 (by decide)).trans ((qk4.1 6 (by decide)).trans ((qi3 6).trans ((qi2 6).trans ((qi1 6).trans hm0)))))) ha10 (inst_c hc0 hl hv02 hv03).1 (Nat.le_of_succ_le (pot_b (m := m) (H := H10) ha10 (by omega))) hst0 (Or.inr ⟨by decide, hl.2.2.2.2⟩))⟩⟩)
theorem pb_var (h : ps m H) (hBB : B ≤ 1000000) (hB : ps_pot m H ≤ B + 80) (hc0 : CT (ab m H)) (hst0 : (ab m H 11).1 = 0) (hmo1 : 1 ≤ (ab m H 1).1) (hm0 : mu_i H 80 6 = 2) (hk0 : mu_i H 80 4 = 112) : mu_TI (mu_D (d + 7)) 138 [.inr (.inr (some 80))] H (fun x H1 => (x = 0 ∧ ps m H1 ∧ pt m B H H1 ∧ ps_pot m H1 ≤ ps_pot m H + 60) ∨ (x = 1 ∧ ps m H1 ∧ pt m B H H1 ∧ ps_pot m H1 + 0 ≤ ps_pot m H ∧ PC m H1)) := by
  refine mu_meth (M := mu_m138) rfl rfl ?_
  refine mw_ht (mu_fn_of (show [0].Nodup by decide)) ?_
  refine mw_go mu_g138 (k := 2) (f1 := (4, [(0, .inr (.inr (some 80)))], [.inr (.inr (mu_r H 80 2))], H)) (C := [mu_is H (some 80) 7]) rfl (show mu_is H (some 80) 7 from h.1.is rfl) ?_
  rw [h.m80]
  refine mw_go mu_g138 (k := 1) (f1 := (7, [(0, .inr (.inr (some 80)))], [.inr (.inr (mu_r H m 3))], H)) (C := [mu_is H (some m) 6]) rfl (show mu_is H (some m) 6 from h.im) ?_
  rw [h.r3]
  refine mw_go mu_g138 (k := 5) (f1 := (14, [(0, .inr (.inr (some 80)))], [.inl (0 : Int32), .inl (0 : Int32), .inl (0 : Int32), .inl (mu_i H 80 5), .inr (.inr (some (m + 7)))], H)) (C := [mu_is H (some 80) 7]) rfl (show mu_is H (some 80) 7 from h.1.is rfl) ?_
  refine mw_cI (fun _ => rfl) (show mu_is H (some (m + 7)) 10 from h.i3) (pb_put3 (d := (d + 3)) (B := B) h (by omega) (mu_i H 80 5) (0 : Int32) (0 : Int32) (0 : Int32)) (fun x1 H1 q1 => ?_)
  obtain ⟨hp1, qt1, qx1, qi1, qs1, qb1, qa1⟩ := q1
  obtain rfl : x1 = nI ((ab m H) 3).1 := qx1
  have ht1 := (pt.refl m B H).trans qt1
  have ha1 : ab m H1 = (tp 3 (ab m H) (mu_i H 80 5) (0 : Int32) (0 : Int32) (0 : Int32)) := qa1
  refine mw_go mu_g138 (k := 2) (f1 := (19, [(1, .inl (nI ((ab m H) 3).1)), (0, .inr (.inr (some 80)))], [.inr (.inr (some 80))], H1)) (C := []) rfl trivial ?_
  refine mw_cV (fun _ => rfl) (show mu_is H1 (some 80) 7 from hp1.1.is rfl) (pb_adv (d := (d + 4)) (B := B) hp1) (fun H2 q2 => ?_)
  obtain ⟨⟨hp2, qt2, qk2, qb2, qc2⟩, qa2⟩ := q2
  have ht2 := ht1.trans qt2
  have qs2 : gi_sz H2 89 = gi_sz H1 89 := qk2.2
  have ha2 : ab m H2 = (tp 3 (ab m H) (mu_i H 80 5) (0 : Int32) (0 : Int32) (0 : Int32)) := qa2.trans (by rw [ha1])
  have qd2 := qc2 (show mu_i H1 80 4 < 114 from (by rw [(qi1 4)]; exact (show (mu_i H 80 4) < 114 from (by rw [hk0]; decide))))
  refine mw_go mu_g138 (k := 2) (f1 := (25, [(1, .inl (nI ((ab m H) 3).1)), (0, .inr (.inr (some 80)))], [.inl (72 : Int32), .inr (.inr (some 80))], H2)) (C := []) rfl trivial ?_
  refine mw_cI (fun _ => rfl) (show mu_is H2 (some 80) 7 from hp2.1.is rfl) (pb_take (d := (d + 3)) (B := B) hp2 (72 : Int32) (by decide)) (fun x3 H3 q3 => ?_)
  rcases q3 with ⟨rfl, rfl, qe3⟩ | ⟨rfl, hp3, qt3, qk3, qb3, qe3, qa3⟩
  · -- (0 : Int32)
    refine mw_if (P := (0 : Int32) = 0) (a := 31) (b := 33) (fun _ => rfl) trivial (fun h4 => ?_) (fun h4 => absurd (by decide) h4)
    refine mw_go mu_g138 (k := 1) (f1 := (32, [(1, .inl (nI ((ab m H) 3).1)), (0, .inr (.inr (some 80)))], [.inl (0 : Int32)], H2)) (C := []) rfl trivial ?_
    exact mw_of (fun _ => mu_ret rfl (Or.inl rfl) ⟨_, H2, rfl, Or.inl ⟨rfl, hp2, ht2, by omega⟩⟩)
  · -- (1 : Int32)
    have ht3 := ht2.trans qt3
    have qs3 : gi_sz H3 89 = gi_sz H2 89 := qk3.2
    have ha3 : ab m H3 = (tp 3 (ab m H) (mu_i H 80 5) (0 : Int32) (0 : Int32) (0 : Int32)) := qa3.trans (by rw [ha2])
    refine mw_if (P := (1 : Int32) = 0) (a := 31) (b := 33) (fun _ => rfl) trivial (fun h5 => absurd h5 (by decide)) (fun h5 => ?_)
    refine mw_go mu_g138 (k := 3) (f1 := (39, [(1, .inl (nI ((ab m H) 3).1)), (0, .inr (.inr (some 80)))], [.inl (112 : Int32), .inl (mu_i H3 80 4)], H3)) (C := [mu_is H3 (some 80) 7]) rfl (show mu_is H3 (some 80) 7 from hp3.1.is rfl) ?_
    refine mw_if (P := (mu_i H3 80 4) = (112 : Int32)) (a := 42) (b := 48) (fun _ => rfl) trivial (fun h6 => ?_) (fun h6 => ?_)
    · -- 42: (mu_i H3 80 4) = (112 : Int32)
      refine mw_go mu_g138 (k := 2) (f1 := (44, [(1, .inl (nI ((ab m H) 3).1)), (0, .inr (.inr (some 80)))], [.inl (nI ((ab m H) 3).1), .inr (.inr (some 80))], H3)) (C := []) rfl trivial ?_
      refine mw_cI (fun _ => rfl) (show mu_is H3 (some 80) 7 from hp3.1.is rfl) (pb_inst (d := d) (B := B) (v := (ab m H 3).1) hp3 hBB (by omega) (by rw [ha3]; exact hc0.varn) (by rw [ha3]; exact (lastv_new hc0 (ab_lt h rfl (by decide)) hmo1).1) (by rw [ha3]; exact (lastv_new hc0 (ab_lt h rfl (by decide)) hmo1).2.1) (by rw [ha3]; exact (lastv_new hc0 (ab_lt h rfl (by decide)) hmo1).2.2) (by rw [ha3]; exact hst0) (show mu_i H3 80 6 = 2 from ((qk3.1 6 (by decide)).trans ((qk2.1 6 (by decide)).trans ((qi1 6).trans hm0)))) (show mu_i H3 80 4 = 112 from h6)) (fun x7 H7 q7 => ?_)
      rcases q7 with ⟨rfl, hp7, qt7, qb7⟩ | ⟨rfl, hp7, qt7, qb7, qp7⟩
      · -- (0 : Int32)
        have ht7 := ht3.trans qt7
        have hc7 : ps_mp (mu_i H3 80 6) = 0 := by rw [show mu_i H3 80 6 = (2 : Int32) from ((qk3.1 6 (by decide)).trans ((qk2.1 6 (by decide)).trans ((qi1 6).trans hm0)))]; rfl
        exact mw_of (fun _ => mu_ret rfl (Or.inl rfl) ⟨_, H7, rfl, Or.inl ⟨rfl, hp7, ht7, by omega⟩⟩)
      · -- (1 : Int32)
        have ht7 := ht3.trans qt7
        have hc7 : ps_mp (mu_i H3 80 6) = 0 := by rw [show mu_i H3 80 6 = (2 : Int32) from ((qk3.1 6 (by decide)).trans ((qk2.1 6 (by decide)).trans ((qi1 6).trans hm0)))]; rfl
        exact mw_of (fun _ => mu_ret rfl (Or.inr rfl) ⟨_, H7, rfl, Or.inr ⟨rfl, hp7, ht7, by omega, qp7⟩⟩)
    · -- 48: not (mu_i H3 80 4) = (112 : Int32)
      refine mw_go mu_g138 (k := 3) (f1 := (54, [(1, .inl (nI ((ab m H) 3).1)), (0, .inr (.inr (some 80)))], [.inl (66 : Int32), .inl (mu_i H3 80 4)], H3)) (C := [mu_is H3 (some 80) 7]) rfl (show mu_is H3 (some 80) 7 from hp3.1.is rfl) ?_
      refine mw_if (P := (mu_i H3 80 4) = (66 : Int32)) (a := 57) (b := 80) (fun _ => rfl) trivial (fun h8 => ?_) (fun h8 => ?_)
      · -- 57: (mu_i H3 80 4) = (66 : Int32)
        refine mw_go mu_g138 (k := 2) (f1 := (59, [(1, .inl (nI ((ab m H) 3).1)), (0, .inr (.inr (some 80)))], [.inl (nI ((ab m H) 3).1), .inr (.inr (some 80))], H3)) (C := []) rfl trivial ?_
        refine mw_cI (fun _ => rfl) (show mu_is H3 (some 80) 7 from hp3.1.is rfl) (pb_vals (d := (d + 2)) (B := B) (v := (ab m H 3).1) hp3 hBB (by omega) (by rw [ha3]; exact hc0.varn) (by rw [ha3]; exact (lastv_new hc0 (ab_lt h rfl (by decide)) hmo1).1) (by rw [ha3]; exact (lastv_new hc0 (ab_lt h rfl (by decide)) hmo1).2.1) (by rw [ha3]; exact (lastv_new hc0 (ab_lt h rfl (by decide)) hmo1).2.2) (show mu_i H3 80 4 < 114 from (show (mu_i H3 80 4) < 114 from (by rw [h8]; decide)))) (fun x9 H9 q9 => ?_)
        rcases q9 with ⟨rfl, hp9, qt9, qb9⟩ | ⟨rfl, hp9, qt9, qb9, qc9, qi9⟩
        · -- (0 : Int32)
          have ht9 := ht3.trans qt9
          have hc9 : ps_mp (mu_i H3 80 6) = 0 := by rw [show mu_i H3 80 6 = (2 : Int32) from ((qk3.1 6 (by decide)).trans ((qk2.1 6 (by decide)).trans ((qi1 6).trans hm0)))]; rfl
          refine mw_if (P := (0 : Int32) = 0) (a := 78) (b := 65) (fun _ => rfl) trivial (fun h10 => ?_) (fun h10 => absurd (by decide) h10)
          refine mw_go mu_g138 (k := 1) (f1 := (79, [(1, .inl (nI ((ab m H) 3).1)), (0, .inr (.inr (some 80)))], [.inl (0 : Int32)], H9)) (C := []) rfl trivial ?_
          exact mw_of (fun _ => mu_ret rfl (Or.inl rfl) ⟨_, H9, rfl, Or.inl ⟨rfl, hp9, ht9, by omega⟩⟩)
        · -- (1 : Int32)
          have ht9 := ht3.trans qt9
          have hc9 : ps_mp (mu_i H3 80 6) = 0 := by rw [show mu_i H3 80 6 = (2 : Int32) from ((qk3.1 6 (by decide)).trans ((qk2.1 6 (by decide)).trans ((qi1 6).trans hm0)))]; rfl
          refine mw_if (P := (1 : Int32) = 0) (a := 78) (b := 65) (fun _ => rfl) trivial (fun h11 => absurd h11 (by decide)) (fun h11 => ?_)
          refine mw_go mu_g138 (k := 2) (f1 := (68, [(1, .inl (nI ((ab m H) 3).1)), (0, .inr (.inr (some 80)))], [.inl (71 : Int32), .inr (.inr (some 80))], H9)) (C := []) rfl trivial ?_
          refine mw_cI (fun _ => rfl) (show mu_is H9 (some 80) 7 from hp9.1.is rfl) (pb_take (d := (d + 3)) (B := B) hp9 (71 : Int32) (by decide)) (fun x12 H12 q12 => ?_)
          rcases q12 with ⟨rfl, rfl, qe12⟩ | ⟨rfl, hp12, qt12, qk12, qb12, qe12, qa12⟩
          · -- (0 : Int32)
            refine mw_if (P := (0 : Int32) = 0) (a := 78) (b := 74) (fun _ => rfl) trivial (fun h13 => ?_) (fun h13 => absurd (by decide) h13)
            refine mw_go mu_g138 (k := 1) (f1 := (79, [(1, .inl (nI ((ab m H) 3).1)), (0, .inr (.inr (some 80)))], [.inl (0 : Int32)], H9)) (C := []) rfl trivial ?_
            exact mw_of (fun _ => mu_ret rfl (Or.inl rfl) ⟨_, H9, rfl, Or.inl ⟨rfl, hp9, ht9, by omega⟩⟩)
          · -- (1 : Int32)
            have ht12 := ht9.trans qt12
            have qs12 : gi_sz H12 89 = gi_sz H9 89 := qk12.2
            have ha12 : ab m H12 = (ab m H9) := qa12
            refine mw_if (P := (1 : Int32) = 0) (a := 78) (b := 74) (fun _ => rfl) trivial (fun h14 => absurd h14 (by decide)) (fun h14 => ?_)
            refine mw_go mu_g138 (k := 2) (f1 := (79, [(1, .inl (nI ((ab m H) 3).1)), (0, .inr (.inr (some 80)))], [.inl (1 : Int32)], H12)) (C := []) rfl trivial ?_
            have hz11 : ((ab m H9) 11).1 = 0 := by rw [qc9.2.2, ha3]; exact hst0
            have hz1 : 1 ≤ ((ab m H9) 1).1 := by rw [qc9.2.1, ha3]; exact hmo1
            exact mw_of (fun _ => mu_ret rfl (Or.inr rfl) ⟨_, H12, rfl, Or.inr ⟨rfl, hp12, ht12, by omega, (PC_0 (show mu_i H12 80 6 = 2 from ((qk12.1 6 (by decide)).trans ((qi9 6 (by decide)).trans ((qk3.1 6 (by decide)).trans ((qk2.1 6 (by decide)).trans ((qi1 6).trans hm0)))))) ha12 qc9.1 (Nat.le_of_succ_le (pot_b (m := m) (H := H12) ha12 (by omega))) hz11 (Or.inr ⟨by decide, hz1⟩))⟩⟩)
      · -- 80: not (mu_i H3 80 4) = (66 : Int32)
        refine mw_go mu_g138 (k := 3) (f1 := (86, [(1, .inl (nI ((ab m H) 3).1)), (0, .inr (.inr (some 80)))], [.inl (11 : Int32), .inl (mu_i H3 80 4)], H3)) (C := [mu_is H3 (some 80) 7]) rfl (show mu_is H3 (some 80) 7 from hp3.1.is rfl) ?_
        refine mw_if (P := (mu_i H3 80 4) = (11 : Int32)) (a := 89) (b := 113) (fun _ => rfl) trivial (fun h15 => ?_) (fun h15 => ?_)
        · -- 89: (mu_i H3 80 4) = (11 : Int32)
          refine mw_go mu_g138 (k := 2) (f1 := (92, [(1, .inl (nI ((ab m H) 3).1)), (0, .inr (.inr (some 80)))], [.inl (11 : Int32), .inr (.inr (some 80))], H3)) (C := []) rfl trivial ?_
          refine mw_cI (fun _ => rfl) (show mu_is H3 (some 80) 7 from hp3.1.is rfl) (pb_take (d := (d + 3)) (B := B) hp3 (11 : Int32) (by decide)) (fun x16 H16 q16 => ?_)
          rcases q16 with ⟨rfl, rfl, qe16⟩ | ⟨rfl, hp16, qt16, qk16, qb16, qe16, qa16⟩
          · -- (0 : Int32)
            refine mw_if (P := (0 : Int32) = 0) (a := 111) (b := 98) (fun _ => rfl) trivial (fun h17 => ?_) (fun h17 => absurd (by decide) h17)
            refine mw_go mu_g138 (k := 1) (f1 := (112, [(1, .inl (nI ((ab m H) 3).1)), (0, .inr (.inr (some 80)))], [.inl (0 : Int32)], H3)) (C := []) rfl trivial ?_
            exact mw_of (fun _ => mu_ret rfl (Or.inl rfl) ⟨_, H3, rfl, Or.inl ⟨rfl, hp3, ht3, by omega⟩⟩)
          · -- (1 : Int32)
            have ht16 := ht3.trans qt16
            have qs16 : gi_sz H16 89 = gi_sz H3 89 := qk16.2
            have ha16 : ab m H16 = (tp 3 (ab m H) (mu_i H 80 5) (0 : Int32) (0 : Int32) (0 : Int32)) := qa16.trans (by rw [ha3])
            refine mw_if (P := (1 : Int32) = 0) (a := 111) (b := 98) (fun _ => rfl) trivial (fun h18 => absurd h18 (by decide)) (fun h18 => ?_)
            refine mw_go mu_g138 (k := 2) (f1 := (101, [(1, .inl (nI ((ab m H) 3).1)), (0, .inr (.inr (some 80)))], [.inl (71 : Int32), .inr (.inr (some 80))], H16)) (C := []) rfl trivial ?_
            refine mw_cI (fun _ => rfl) (show mu_is H16 (some 80) 7 from hp16.1.is rfl) (pb_take (d := (d + 3)) (B := B) hp16 (71 : Int32) (by decide)) (fun x19 H19 q19 => ?_)
            rcases q19 with ⟨rfl, rfl, qe19⟩ | ⟨rfl, hp19, qt19, qk19, qb19, qe19, qa19⟩
            · -- (0 : Int32)
              refine mw_if (P := (0 : Int32) = 0) (a := 111) (b := 107) (fun _ => rfl) trivial (fun h20 => ?_) (fun h20 => absurd (by decide) h20)
              refine mw_go mu_g138 (k := 1) (f1 := (112, [(1, .inl (nI ((ab m H) 3).1)), (0, .inr (.inr (some 80)))], [.inl (0 : Int32)], H16)) (C := []) rfl trivial ?_
              exact mw_of (fun _ => mu_ret rfl (Or.inl rfl) ⟨_, H16, rfl, Or.inl ⟨rfl, hp16, ht16, by omega⟩⟩)
            · -- (1 : Int32)
              have ht19 := ht16.trans qt19
              have qs19 : gi_sz H19 89 = gi_sz H16 89 := qk19.2
              have ha19 : ab m H19 = (tp 3 (ab m H) (mu_i H 80 5) (0 : Int32) (0 : Int32) (0 : Int32)) := qa19.trans (by rw [ha16])
              refine mw_if (P := (1 : Int32) = 0) (a := 111) (b := 107) (fun _ => rfl) trivial (fun h21 => absurd h21 (by decide)) (fun h21 => ?_)
              refine mw_go mu_g138 (k := 2) (f1 := (112, [(1, .inl (nI ((ab m H) 3).1)), (0, .inr (.inr (some 80)))], [.inl (1 : Int32)], H19)) (C := []) rfl trivial ?_
              exact mw_of (fun _ => mu_ret rfl (Or.inr rfl) ⟨_, H19, rfl, Or.inr ⟨rfl, hp19, ht19, by omega, (PC_0 (show mu_i H19 80 6 = 2 from ((qk19.1 6 (by decide)).trans ((qk16.1 6 (by decide)).trans ((qk3.1 6 (by decide)).trans ((qk2.1 6 (by decide)).trans ((qi1 6).trans hm0)))))) ha19 hc0.varn (Nat.le_of_succ_le (pot_b (m := m) (H := H19) ha19 (by omega))) hst0 (Or.inr ⟨by decide, hmo1⟩))⟩⟩)
        · -- 113: not (mu_i H3 80 4) = (11 : Int32)
          refine mw_go mu_g138 (k := 2) (f1 := (117, [(1, .inl (nI ((ab m H) 3).1)), (0, .inr (.inr (some 80)))], [.inr (.inr (mu_r H3 80 2))], H3)) (C := [mu_is H3 (some 80) 7]) rfl (show mu_is H3 (some 80) 7 from hp3.1.is rfl) ?_
          rw [hp3.m80]
          refine mw_go mu_g138 (k := 1) (f1 := (120, [(1, .inl (nI ((ab m H) 3).1)), (0, .inr (.inr (some 80)))], [.inr (.inr (mu_r H3 m 3))], H3)) (C := [mu_is H3 (some m) 6]) rfl (show mu_is H3 (some m) 6 from hp3.im) ?_
          rw [hp3.r3]
          refine mw_go mu_g138 (k := 3) (f1 := (123, [(1, .inl (nI ((ab m H) 3).1)), (0, .inr (.inr (some 80)))], [.inl (1 : Int32), .inl (1 : Int32), .inl (nI ((ab m H) 3).1), .inr (.inr (some (m + 7)))], H3)) (C := []) rfl trivial ?_
          refine mw_cV (fun _ => rfl) (show mu_is H3 (some (m + 7)) 10 from hp3.i3) (gi_set_ok (d := (d + 5)) hp3.1 hp3.w3 (nI ((ab m H) 3).1) (1 : Int32) (j := 1) (by decide)) (fun H22 q22 => ?_)
          have qa22 : ab m H22 = tx 3 (ab m H3) (nI ((ab m H) 3).1) 1 (1 : Int32) := by rw [q22]; exact ab_set hp3.1 hp3.2.1 (j := 3) (by decide)
          obtain ⟨hp22, qt22, qi22, qs22, qb22⟩ := ps_set (B := B) hp3 (j := 1) (row := (nI ((ab m H) 3).1)) (v := (1 : Int32)) hp3.w3 (by omega)
          rw [← q22] at hp22 qt22 qi22 qs22 qb22
          have ht22 := ht3.trans qt22
          have ha22 : ab m H22 = (tx 3 (tp 3 (ab m H) (mu_i H 80 5) (0 : Int32) (0 : Int32) (0 : Int32)) (nI ((ab m H) 3).1) 1 (1 : Int32)) := qa22.trans (by rw [ha3])
          refine mw_go mu_g138 (k := 3) (f1 := (129, [(1, .inl (nI ((ab m H) 3).1)), (0, .inr (.inr (some 80)))], [.inl (2 : Int32), .inl (nI ((ab m H) 3).1), .inr (.inr (some 80))], H22)) (C := []) rfl trivial ?_
          refine mw_cI (fun _ => rfl) (show mu_is H22 (some 80) 7 from hp22.1.is rfl) (pb_bound (d := (d + 2)) (B := B) (v := (ab m H 3).1) (c := 2) hp22 hBB (by omega) (by decide) (by decide) (by rw [ha22]; exact (CT.vty (y := 1) hc0.varn (lastv_new hc0 (ab_lt h rfl (by decide)) hmo1).1 (lastv_new hc0 (ab_lt h rfl (by decide)) hmo1).2.1 (lastv_new hc0 (ab_lt h rfl (by decide)) hmo1).2.2 (by decide)).1) (by rw [ha22]; exact (CT.vty (y := 1) hc0.varn (lastv_new hc0 (ab_lt h rfl (by decide)) hmo1).1 (lastv_new hc0 (ab_lt h rfl (by decide)) hmo1).2.1 (lastv_new hc0 (ab_lt h rfl (by decide)) hmo1).2.2 (by decide)).2.1)) (fun x23 H23 q23 => ?_)
          rcases q23 with ⟨rfl, hp23, qt23, qb23⟩ | ⟨rfl, hp23, qt23, qb23, qc23, qi23⟩
          · -- (0 : Int32)
            have ht23 := ht22.trans qt23
            have hc23 : ps_mp (mu_i H22 80 6) = 0 := by rw [show mu_i H22 80 6 = (2 : Int32) from ((qi22 6).trans ((qk3.1 6 (by decide)).trans ((qk2.1 6 (by decide)).trans ((qi1 6).trans hm0))))]; rfl
            refine mw_if (P := (0 : Int32) = 0) (a := 166) (b := 135) (fun _ => rfl) trivial (fun h24 => ?_) (fun h24 => absurd (by decide) h24)
            refine mw_go mu_g138 (k := 1) (f1 := (167, [(1, .inl (nI ((ab m H) 3).1)), (0, .inr (.inr (some 80)))], [.inl (0 : Int32)], H23)) (C := []) rfl trivial ?_
            exact mw_of (fun _ => mu_ret rfl (Or.inl rfl) ⟨_, H23, rfl, Or.inl ⟨rfl, hp23, ht23, by omega⟩⟩)
          · -- (1 : Int32)
            have ht23 := ht22.trans qt23
            have hc23 : ps_mp (mu_i H22 80 6) = 0 := by rw [show mu_i H22 80 6 = (2 : Int32) from ((qi22 6).trans ((qk3.1 6 (by decide)).trans ((qk2.1 6 (by decide)).trans ((qi1 6).trans hm0))))]; rfl
            refine mw_if (P := (1 : Int32) = 0) (a := 166) (b := 135) (fun _ => rfl) trivial (fun h25 => absurd h25 (by decide)) (fun h25 => ?_)
            refine mw_go mu_g138 (k := 2) (f1 := (138, [(1, .inl (nI ((ab m H) 3).1)), (0, .inr (.inr (some 80)))], [.inl (98 : Int32), .inr (.inr (some 80))], H23)) (C := []) rfl trivial ?_
            refine mw_cI (fun _ => rfl) (show mu_is H23 (some 80) 7 from hp23.1.is rfl) (pb_take (d := (d + 3)) (B := B) hp23 (98 : Int32) (by decide)) (fun x26 H26 q26 => ?_)
            rcases q26 with ⟨rfl, rfl, qe26⟩ | ⟨rfl, hp26, qt26, qk26, qb26, qe26, qa26⟩
            · -- (0 : Int32)
              refine mw_if (P := (0 : Int32) = 0) (a := 166) (b := 144) (fun _ => rfl) trivial (fun h27 => ?_) (fun h27 => absurd (by decide) h27)
              refine mw_go mu_g138 (k := 1) (f1 := (167, [(1, .inl (nI ((ab m H) 3).1)), (0, .inr (.inr (some 80)))], [.inl (0 : Int32)], H23)) (C := []) rfl trivial ?_
              exact mw_of (fun _ => mu_ret rfl (Or.inl rfl) ⟨_, H23, rfl, Or.inl ⟨rfl, hp23, ht23, by omega⟩⟩)
            · -- (1 : Int32)
              have ht26 := ht23.trans qt26
              have qs26 : gi_sz H26 89 = gi_sz H23 89 := qk26.2
              have ha26 : ab m H26 = (ab m H23) := qa26
              refine mw_if (P := (1 : Int32) = 0) (a := 166) (b := 144) (fun _ => rfl) trivial (fun h28 => absurd h28 (by decide)) (fun h28 => ?_)
              refine mw_go mu_g138 (k := 3) (f1 := (147, [(1, .inl (nI ((ab m H) 3).1)), (0, .inr (.inr (some 80)))], [.inl (3 : Int32), .inl (nI ((ab m H) 3).1), .inr (.inr (some 80))], H26)) (C := []) rfl trivial ?_
              refine mw_cI (fun _ => rfl) (show mu_is H26 (some 80) 7 from hp26.1.is rfl) (pb_bound (d := (d + 2)) (B := B) (v := (ab m H 3).1) (c := 3) hp26 hBB (by omega) (by decide) (by decide) (by rw [ha26]; exact qc23.1) (by rw [ha26]; exact qc23.2.1)) (fun x29 H29 q29 => ?_)
              rcases q29 with ⟨rfl, hp29, qt29, qb29⟩ | ⟨rfl, hp29, qt29, qb29, qc29, qi29⟩
              · -- (0 : Int32)
                have ht29 := ht26.trans qt29
                have hc29 : ps_mp (mu_i H26 80 6) = 0 := by rw [show mu_i H26 80 6 = (2 : Int32) from ((qk26.1 6 (by decide)).trans ((qi23 6 (by decide)).trans ((qi22 6).trans ((qk3.1 6 (by decide)).trans ((qk2.1 6 (by decide)).trans ((qi1 6).trans hm0))))))]; rfl
                refine mw_if (P := (0 : Int32) = 0) (a := 166) (b := 153) (fun _ => rfl) trivial (fun h30 => ?_) (fun h30 => absurd (by decide) h30)
                refine mw_go mu_g138 (k := 1) (f1 := (167, [(1, .inl (nI ((ab m H) 3).1)), (0, .inr (.inr (some 80)))], [.inl (0 : Int32)], H29)) (C := []) rfl trivial ?_
                exact mw_of (fun _ => mu_ret rfl (Or.inl rfl) ⟨_, H29, rfl, Or.inl ⟨rfl, hp29, ht29, by omega⟩⟩)
              · -- (1 : Int32)
                have ht29 := ht26.trans qt29
                have hc29 : ps_mp (mu_i H26 80 6) = 0 := by rw [show mu_i H26 80 6 = (2 : Int32) from ((qk26.1 6 (by decide)).trans ((qi23 6 (by decide)).trans ((qi22 6).trans ((qk3.1 6 (by decide)).trans ((qk2.1 6 (by decide)).trans ((qi1 6).trans hm0))))))]; rfl
                refine mw_if (P := (1 : Int32) = 0) (a := 166) (b := 153) (fun _ => rfl) trivial (fun h31 => absurd h31 (by decide)) (fun h31 => ?_)
                refine mw_go mu_g138 (k := 2) (f1 := (156, [(1, .inl (nI ((ab m H) 3).1)), (0, .inr (.inr (some 80)))], [.inl (71 : Int32), .inr (.inr (some 80))], H29)) (C := []) rfl trivial ?_
                refine mw_cI (fun _ => rfl) (show mu_is H29 (some 80) 7 from hp29.1.is rfl) (pb_take (d := (d + 3)) (B := B) hp29 (71 : Int32) (by decide)) (fun x32 H32 q32 => ?_)
                rcases q32 with ⟨rfl, rfl, qe32⟩ | ⟨rfl, hp32, qt32, qk32, qb32, qe32, qa32⟩
                · -- (0 : Int32)
                  refine mw_if (P := (0 : Int32) = 0) (a := 166) (b := 162) (fun _ => rfl) trivial (fun h33 => ?_) (fun h33 => absurd (by decide) h33)
                  refine mw_go mu_g138 (k := 1) (f1 := (167, [(1, .inl (nI ((ab m H) 3).1)), (0, .inr (.inr (some 80)))], [.inl (0 : Int32)], H29)) (C := []) rfl trivial ?_
                  exact mw_of (fun _ => mu_ret rfl (Or.inl rfl) ⟨_, H29, rfl, Or.inl ⟨rfl, hp29, ht29, by omega⟩⟩)
                · -- (1 : Int32)
                  have ht32 := ht29.trans qt32
                  have qs32 : gi_sz H32 89 = gi_sz H29 89 := qk32.2
                  have ha32 : ab m H32 = (ab m H29) := qa32
                  refine mw_if (P := (1 : Int32) = 0) (a := 166) (b := 162) (fun _ => rfl) trivial (fun h34 => absurd h34 (by decide)) (fun h34 => ?_)
                  refine mw_go mu_g138 (k := 2) (f1 := (167, [(1, .inl (nI ((ab m H) 3).1)), (0, .inr (.inr (some 80)))], [.inl (1 : Int32)], H32)) (C := []) rfl trivial ?_
                  have hz11 : ((ab m H29) 11).1 = 0 := by rw [qc29.2.2.2, ha26, qc23.2.2.2, ha22]; exact hst0
                  have hz1 : 1 ≤ ((ab m H29) 1).1 := by rw [qc29.2.2.1, ha26, qc23.2.2.1, ha22]; exact hmo1
                  exact mw_of (fun _ => mu_ret rfl (Or.inr rfl) ⟨_, H32, rfl, Or.inr ⟨rfl, hp32, ht32, by omega, (PC_0 (show mu_i H32 80 6 = 2 from ((qk32.1 6 (by decide)).trans ((qi29 6 (by decide)).trans ((qk26.1 6 (by decide)).trans ((qi23 6 (by decide)).trans ((qi22 6).trans ((qk3.1 6 (by decide)).trans ((qk2.1 6 (by decide)).trans ((qi1 6).trans hm0))))))))) ha32 qc29.1 (Nat.le_of_succ_le (pot_b (m := m) (H := H32) ha32 (by omega))) hz11 (Or.inr ⟨by decide, hz1⟩))⟩⟩)
theorem pb_section (h : ps m H) (hBB : B ≤ 1000000) (hB : ps_pot m H ≤ B + 80) (hc0 : CT (ab m H)) (hst0 : (ab m H 11).1 = 0) (hmo1 : 1 ≤ (ab m H 1).1) : mu_TI (mu_D (d + 6)) 139 [.inr (.inr (some 80))] H (fun x H1 => (x = 0 ∧ ps m H1 ∧ pt m B H H1 ∧ ps_pot m H1 ≤ ps_pot m H + 60) ∨ (x = 1 ∧ ps m H1 ∧ pt m B H H1 ∧ ps_pot m H1 + 0 ≤ ps_pot m H ∧ PC m H1)) := by
  refine mu_meth (M := mu_m139) rfl rfl ?_
  refine mw_ht (mu_fn_of (show [0].Nodup by decide)) ?_
  refine mw_go mu_g139 (k := 5) (f1 := (8, [(1, .inl (mu_i H 80 4)), (0, .inr (.inr (some 80)))], [.inl (114 : Int32), .inl (mu_i H 80 4)], H)) (C := [mu_is H (some 80) 7]) rfl (show mu_is H (some 80) 7 from h.1.is rfl) ?_
  refine mw_if (P := (mu_i H 80 4) = (114 : Int32)) (a := 15) (b := 11) (fun _ => rfl) trivial (fun h1 => ?_) (fun h1 => ?_)
  · -- 15: (mu_i H 80 4) = (114 : Int32)
    refine mw_go mu_g139 (k := 3) (f1 := (19, [(1, .inl (mu_i H 80 4)), (0, .inr (.inr (some 80)))], [.inl (114 : Int32), .inl (mu_i H 80 4), .inr (.inr (some 80))], H)) (C := []) rfl trivial ?_
    refine mw_if (P := (mu_i H 80 4) = (114 : Int32)) (a := 22) (b := 27) (fun _ => rfl) trivial (fun _ => ?_) (fun h2 => absurd h1 h2)
    refine mw_go mu_g139 (k := 4) (f1 := (32, [(1, .inl (mu_i H 80 4)), (0, .inr (.inr (some 80)))], [.inl (1 : Int32)], (mu_si H 80 6 (10 : Int32)))) (C := [mu_is H (some 80) 7]) rfl (show mu_is H (some 80) 7 from h.1.is rfl) ?_
    have hp3 : ps m (mu_si H 80 6 (10 : Int32)) := h.si (by decide) (by decide)
    have ht3 : pt m B H (mu_si H 80 6 (10 : Int32)) := (pt.refl m B H).trans (pt.si h)
    have ha3 : ab m (mu_si H 80 6 (10 : Int32)) = (ab m H) := ab_si h.1 h.2.1
    have hb3 : ps_pot m (mu_si H 80 6 (10 : Int32)) + ps_mp (mu_i H 80 6) = ps_pot m H + 0 := ps_pot6 h (10 : Int32)
    have hc3 : ps_mp (mu_i H 80 6) = ps_mp (mu_i H 80 6) := congrArg ps_mp (show mu_i H 80 6 = (mu_i H 80 6) from rfl)
    have hs3 : gi_sz (mu_si H 80 6 (10 : Int32)) 89 = gi_sz H 89 := rfl
    exact mw_of (fun _ => mu_ret rfl (Or.inr rfl) ⟨_, (mu_si H 80 6 (10 : Int32)), rfl, Or.inr ⟨rfl, hp3, ht3, by omega, (PC_0 (show mu_i (mu_si H 80 6 (10 : Int32)) 80 6 = 10 from rfl) ha3 hc0 (Nat.le_of_succ_le (pot_b (m := m) (H := (mu_si H 80 6 (10 : Int32))) ha3 (by omega))) hst0 (Or.inr ⟨by decide, hmo1⟩))⟩⟩)
  · -- 11: not (mu_i H 80 4) = (114 : Int32)
    refine mw_go mu_g139 (k := 1) (f1 := (12, [(1, .inl (mu_i H 80 4)), (0, .inr (.inr (some 80)))], [.inl (mu_i H 80 4)], H)) (C := []) rfl trivial ?_
    refine mw_if (P := (mu_i H 80 4) = 0) (a := 15) (b := 33) (fun _ => rfl) trivial (fun h5 => ?_) (fun h5 => ?_)
    · -- 15: (mu_i H 80 4) = 0
      refine mw_go mu_g139 (k := 3) (f1 := (19, [(1, .inl (mu_i H 80 4)), (0, .inr (.inr (some 80)))], [.inl (114 : Int32), .inl (mu_i H 80 4), .inr (.inr (some 80))], H)) (C := []) rfl trivial ?_
      refine mw_if (P := (mu_i H 80 4) = (114 : Int32)) (a := 22) (b := 27) (fun _ => rfl) trivial (fun h6 => absurd h6 h1) (fun _ => ?_)
      refine mw_go mu_g139 (k := 3) (f1 := (32, [(1, .inl (mu_i H 80 4)), (0, .inr (.inr (some 80)))], [.inl (1 : Int32)], (mu_si H 80 6 (0 : Int32)))) (C := [mu_is H (some 80) 7]) rfl (show mu_is H (some 80) 7 from h.1.is rfl) ?_
      have hp7 : ps m (mu_si H 80 6 (0 : Int32)) := h.si (by decide) (by decide)
      have ht7 : pt m B H (mu_si H 80 6 (0 : Int32)) := (pt.refl m B H).trans (pt.si h)
      have ha7 : ab m (mu_si H 80 6 (0 : Int32)) = (ab m H) := ab_si h.1 h.2.1
      have hb7 : ps_pot m (mu_si H 80 6 (0 : Int32)) + ps_mp (mu_i H 80 6) = ps_pot m H + 0 := ps_pot6 h (0 : Int32)
      have hc7 : ps_mp (mu_i H 80 6) = ps_mp (mu_i H 80 6) := congrArg ps_mp (show mu_i H 80 6 = (mu_i H 80 6) from rfl)
      have hs7 : gi_sz (mu_si H 80 6 (0 : Int32)) 89 = gi_sz H 89 := rfl
      exact mw_of (fun _ => mu_ret rfl (Or.inr rfl) ⟨_, (mu_si H 80 6 (0 : Int32)), rfl, Or.inr ⟨rfl, hp7, ht7, by omega, (PC_0 (show mu_i (mu_si H 80 6 (0 : Int32)) 80 6 = 0 from rfl) ha7 hc0 (Nat.le_of_succ_le (pot_b (m := m) (H := (mu_si H 80 6 (0 : Int32))) ha7 (by omega))) hst0 (Or.inl ⟨rfl, Or.inl hmo1⟩))⟩⟩)
    · -- 33: not (mu_i H 80 4) = 0
      refine mw_go mu_g139 (k := 2) (f1 := (35, [(1, .inl (mu_i H 80 4)), (0, .inr (.inr (some 80)))], [.inl (1 : Int32), .inl (mu_i H 80 4)], H)) (C := []) rfl trivial ?_
      refine mw_if (P := (mu_i H 80 4) < (1 : Int32)) (a := 44) (b := 38) (fun _ => rfl) trivial (fun h9 => ?_) (fun h9 => ?_)
      · -- 44: (mu_i H 80 4) < (1 : Int32)
        refine mw_go mu_g139 (k := 1) (f1 := (45, [(1, .inl (mu_i H 80 4)), (0, .inr (.inr (some 80)))], [.inl (0 : Int32)], H)) (C := []) rfl trivial ?_
        exact mw_of (fun _ => mu_ret rfl (Or.inl rfl) ⟨_, H, rfl, Or.inl ⟨rfl, h, (pt.refl m B H), by omega⟩⟩)
      · -- 38: not (mu_i H 80 4) < (1 : Int32)
        refine mw_go mu_g139 (k := 2) (f1 := (41, [(1, .inl (mu_i H 80 4)), (0, .inr (.inr (some 80)))], [.inl (8 : Int32), .inl (mu_i H 80 4)], H)) (C := []) rfl trivial ?_
        refine mw_if (P := (8 : Int32) < (mu_i H 80 4)) (a := 44) (b := 46) (fun _ => rfl) trivial (fun h10 => ?_) (fun h10 => ?_)
        · -- 44: (8 : Int32) < (mu_i H 80 4)
          refine mw_go mu_g139 (k := 1) (f1 := (45, [(1, .inl (mu_i H 80 4)), (0, .inr (.inr (some 80)))], [.inl (0 : Int32)], H)) (C := []) rfl trivial ?_
          exact mw_of (fun _ => mu_ret rfl (Or.inl rfl) ⟨_, H, rfl, Or.inl ⟨rfl, h, (pt.refl m B H), by omega⟩⟩)
        · -- 46: not (8 : Int32) < (mu_i H 80 4)
          refine mw_go mu_g139 (k := 1) (f1 := (47, [(1, .inl (mu_i H 80 4)), (0, .inr (.inr (some 80)))], [.inr (.inr (some 80))], H)) (C := []) rfl trivial ?_
          refine mw_cV (fun _ => rfl) (show mu_is H (some 80) 7 from h.1.is rfl) (pb_adv (d := (d + 3)) (B := B) h) (fun H11 q11 => ?_)
          obtain ⟨⟨hp11, qt11, qk11, qb11, qc11⟩, qa11⟩ := q11
          have ht11 := (pt.refl m B H).trans qt11
          have qs11 : gi_sz H11 89 = gi_sz H 89 := qk11.2
          have ha11 : ab m H11 = (ab m H) := qa11
          have qd11 := qc11 (show mu_i H 80 4 < 114 from (show (mu_i H 80 4) < 114 from (ps_lt h10 (by decide))))
          refine mw_go mu_g139 (k := 2) (f1 := (52, [(1, .inl (mu_i H 80 4)), (0, .inr (.inr (some 80)))], [.inl (4 : Int32), .inl (mu_i H 80 4)], H11)) (C := []) rfl trivial ?_
          refine mw_if (P := (mu_i H 80 4) < (4 : Int32)) (a := 64) (b := 55) (fun _ => rfl) trivial (fun h12 => ?_) (fun h12 => ?_)
          · -- 64: (mu_i H 80 4) < (4 : Int32)
            refine mw_go mu_g139 (k := 3) (f1 := (67, [(1, .inl (mu_i H 80 4)), (0, .inr (.inr (some 80)))], [.inl (1 : Int32), .inl (mu_i H 80 4), .inr (.inr (some 80))], H11)) (C := []) rfl trivial ?_
            refine mw_if (P := (mu_i H 80 4) = (1 : Int32)) (a := 70) (b := 74) (fun _ => rfl) trivial (fun h13 => ?_) (fun h13 => ?_)
            · -- 70: (mu_i H 80 4) = (1 : Int32)
              refine mw_go mu_g139 (k := 4) (f1 := (88, [(1, .inl (mu_i H 80 4)), (0, .inr (.inr (some 80)))], [.inl (1 : Int32)], (mu_si H11 80 6 (2 : Int32)))) (C := [mu_is H11 (some 80) 7]) rfl (show mu_is H11 (some 80) 7 from hp11.1.is rfl) ?_
              have hp14 : ps m (mu_si H11 80 6 (2 : Int32)) := hp11.si (by decide) (by decide)
              have ht14 : pt m B H (mu_si H11 80 6 (2 : Int32)) := ht11.trans (pt.si hp11)
              have ha14 : ab m (mu_si H11 80 6 (2 : Int32)) = (ab m H) := (ab_si hp11.1 hp11.2.1).trans ha11
              have hb14 : ps_pot m (mu_si H11 80 6 (2 : Int32)) + ps_mp (mu_i H11 80 6) = ps_pot m H11 + 0 := ps_pot6 hp11 (2 : Int32)
              have hc14 : ps_mp (mu_i H11 80 6) = ps_mp (mu_i H 80 6) := congrArg ps_mp (show mu_i H11 80 6 = (mu_i H 80 6) from (qk11.1 6 (by decide)))
              have hs14 : gi_sz (mu_si H11 80 6 (2 : Int32)) 89 = gi_sz H11 89 := rfl
              have hi15_7 : mu_i (mu_si H11 80 6 (2 : Int32)) 80 7 = (mu_i H 80 7) := (qk11.1 7 (by decide))
              have hi15_8 : mu_i (mu_si H11 80 6 (2 : Int32)) 80 8 = (mu_i H 80 8) := (qk11.1 8 (by decide))
              have hi15_9 : mu_i (mu_si H11 80 6 (2 : Int32)) 80 9 = (mu_i H 80 9) := (qk11.1 9 (by decide))
              have hi15_10 : mu_i (mu_si H11 80 6 (2 : Int32)) 80 10 = (mu_i H 80 10) := (qk11.1 10 (by decide))
              have hi15_11 : mu_i (mu_si H11 80 6 (2 : Int32)) 80 11 = (mu_i H 80 11) := (qk11.1 11 (by decide))
              exact mw_of (fun _ => mu_ret rfl (Or.inr rfl) ⟨_, (mu_si H11 80 6 (2 : Int32)), rfl, Or.inr ⟨rfl, hp14, ht14, by omega, (PC_0 (show mu_i (mu_si H11 80 6 (2 : Int32)) 80 6 = 2 from rfl) ha14 hc0 (Nat.le_of_succ_le (pot_b (m := m) (H := (mu_si H11 80 6 (2 : Int32))) ha14 (by omega))) hst0 (Or.inr ⟨by decide, hmo1⟩))⟩⟩)
            · -- 74: not (mu_i H 80 4) = (1 : Int32)
              refine mw_go mu_g139 (k := 2) (f1 := (76, [(1, .inl (mu_i H 80 4)), (0, .inr (.inr (some 80)))], [.inl (2 : Int32), .inl (mu_i H 80 4), .inr (.inr (some 80))], H11)) (C := []) rfl trivial ?_
              refine mw_if (P := (mu_i H 80 4) = (2 : Int32)) (a := 79) (b := 83) (fun _ => rfl) trivial (fun h16 => ?_) (fun h16 => ?_)
              · -- 79: (mu_i H 80 4) = (2 : Int32)
                refine mw_go mu_g139 (k := 4) (f1 := (88, [(1, .inl (mu_i H 80 4)), (0, .inr (.inr (some 80)))], [.inl (1 : Int32)], (mu_si H11 80 6 (3 : Int32)))) (C := [mu_is H11 (some 80) 7]) rfl (show mu_is H11 (some 80) 7 from hp11.1.is rfl) ?_
                have hp17 : ps m (mu_si H11 80 6 (3 : Int32)) := hp11.si (by decide) (by decide)
                have ht17 : pt m B H (mu_si H11 80 6 (3 : Int32)) := ht11.trans (pt.si hp11)
                have ha17 : ab m (mu_si H11 80 6 (3 : Int32)) = (ab m H) := (ab_si hp11.1 hp11.2.1).trans ha11
                have hb17 : ps_pot m (mu_si H11 80 6 (3 : Int32)) + ps_mp (mu_i H11 80 6) = ps_pot m H11 + 0 := ps_pot6 hp11 (3 : Int32)
                have hc17 : ps_mp (mu_i H11 80 6) = ps_mp (mu_i H 80 6) := congrArg ps_mp (show mu_i H11 80 6 = (mu_i H 80 6) from (qk11.1 6 (by decide)))
                have hs17 : gi_sz (mu_si H11 80 6 (3 : Int32)) 89 = gi_sz H11 89 := rfl
                have hi18_7 : mu_i (mu_si H11 80 6 (3 : Int32)) 80 7 = (mu_i H 80 7) := (qk11.1 7 (by decide))
                have hi18_8 : mu_i (mu_si H11 80 6 (3 : Int32)) 80 8 = (mu_i H 80 8) := (qk11.1 8 (by decide))
                have hi18_9 : mu_i (mu_si H11 80 6 (3 : Int32)) 80 9 = (mu_i H 80 9) := (qk11.1 9 (by decide))
                have hi18_10 : mu_i (mu_si H11 80 6 (3 : Int32)) 80 10 = (mu_i H 80 10) := (qk11.1 10 (by decide))
                have hi18_11 : mu_i (mu_si H11 80 6 (3 : Int32)) 80 11 = (mu_i H 80 11) := (qk11.1 11 (by decide))
                exact mw_of (fun _ => mu_ret rfl (Or.inr rfl) ⟨_, (mu_si H11 80 6 (3 : Int32)), rfl, Or.inr ⟨rfl, hp17, ht17, by omega, (PC_0 (show mu_i (mu_si H11 80 6 (3 : Int32)) 80 6 = 3 from rfl) ha17 hc0 (Nat.le_of_succ_le (pot_b (m := m) (H := (mu_si H11 80 6 (3 : Int32))) ha17 (by omega))) hst0 (Or.inr ⟨by decide, hmo1⟩))⟩⟩)
              · -- 83: not (mu_i H 80 4) = (2 : Int32)
                refine mw_go mu_g139 (k := 3) (f1 := (88, [(1, .inl (mu_i H 80 4)), (0, .inr (.inr (some 80)))], [.inl (1 : Int32)], (mu_si H11 80 6 (4 : Int32)))) (C := [mu_is H11 (some 80) 7]) rfl (show mu_is H11 (some 80) 7 from hp11.1.is rfl) ?_
                have hp19 : ps m (mu_si H11 80 6 (4 : Int32)) := hp11.si (by decide) (by decide)
                have ht19 : pt m B H (mu_si H11 80 6 (4 : Int32)) := ht11.trans (pt.si hp11)
                have ha19 : ab m (mu_si H11 80 6 (4 : Int32)) = (ab m H) := (ab_si hp11.1 hp11.2.1).trans ha11
                have hb19 : ps_pot m (mu_si H11 80 6 (4 : Int32)) + ps_mp (mu_i H11 80 6) = ps_pot m H11 + 0 := ps_pot6 hp11 (4 : Int32)
                have hc19 : ps_mp (mu_i H11 80 6) = ps_mp (mu_i H 80 6) := congrArg ps_mp (show mu_i H11 80 6 = (mu_i H 80 6) from (qk11.1 6 (by decide)))
                have hs19 : gi_sz (mu_si H11 80 6 (4 : Int32)) 89 = gi_sz H11 89 := rfl
                have hi20_7 : mu_i (mu_si H11 80 6 (4 : Int32)) 80 7 = (mu_i H 80 7) := (qk11.1 7 (by decide))
                have hi20_8 : mu_i (mu_si H11 80 6 (4 : Int32)) 80 8 = (mu_i H 80 8) := (qk11.1 8 (by decide))
                have hi20_9 : mu_i (mu_si H11 80 6 (4 : Int32)) 80 9 = (mu_i H 80 9) := (qk11.1 9 (by decide))
                have hi20_10 : mu_i (mu_si H11 80 6 (4 : Int32)) 80 10 = (mu_i H 80 10) := (qk11.1 10 (by decide))
                have hi20_11 : mu_i (mu_si H11 80 6 (4 : Int32)) 80 11 = (mu_i H 80 11) := (qk11.1 11 (by decide))
                exact mw_of (fun _ => mu_ret rfl (Or.inr rfl) ⟨_, (mu_si H11 80 6 (4 : Int32)), rfl, Or.inr ⟨rfl, hp19, ht19, by omega, (PC_0 (show mu_i (mu_si H11 80 6 (4 : Int32)) 80 6 = 4 from rfl) ha19 hc0 (Nat.le_of_succ_le (pot_b (m := m) (H := (mu_si H11 80 6 (4 : Int32))) ha19 (by omega))) hst0 (Or.inr ⟨by decide, hmo1⟩))⟩⟩)
          · -- 55: not (mu_i H 80 4) < (4 : Int32)
            refine mw_go mu_g139 (k := 4) (f1 := (60, [(1, .inl (mu_i H 80 4)), (0, .inr (.inr (some 80)))], [.inl (5 : Int32), .inl (mu_i H 80 4), .inl (40 : Int32), .inr (.inr (some 80))], H11)) (C := []) rfl trivial ?_
            refine mw_cI (fun _ => rfl) (show mu_is H11 (some 80) 7 from hp11.1.is rfl) (pb_start (d := d) (B := B) hp11 hBB (by omega) (40 : Int32) (mu_i H 80 4) (5 : Int32) ⟨40, by decide, rfl⟩) (fun x21 H21 q21 => ?_)
            rcases q21 with ⟨rfl, hp21, qt21, qi21, qs21, qb21, qm21, q9_21, qa21⟩
            · -- (1 : Int32)
              have ht21 := ht11.trans qt21
              have hc21 : ps_mp (mu_i H11 80 6) = ps_mp (mu_i H 80 6) := congrArg ps_mp (show mu_i H11 80 6 = (mu_i H 80 6) from (qk11.1 6 (by decide)))
              have ha21 : ab m H21 = (tp 11 (ab m H) (40 : Int32) (mu_i H 80 4) 0 0) := qa21.trans (by rw [ha11])
              have hw21 : ps_mp (5 : Int32) = 0 := rfl
              exact mw_of (fun _ => mu_ret rfl (Or.inr rfl) ⟨_, H21, rfl, Or.inr ⟨rfl, hp21, ht21, by omega, (PC_c (show mu_i H21 80 6 = 5 from qm21) (show mu_i H21 80 9 = _ from (q9_21.trans (sz_n hp11 ha11 (j := 0) (by decide)))) ha21 (cy_item (k := 40) hc0 (Nat.le_of_succ_le (pot_0 (m := m) (H := H) (by omega))) hmo1 hst0 (by decide)) (Or.inl ⟨Or.inl rfl, rfl, rfl⟩))⟩⟩)
theorem pb_def (h : ps m H) (hBB : B ≤ 1000000) (hB : ps_pot m H ≤ B + 80) (hc0 : CT (ab m H)) (hst0 : (ab m H 11).1 = 0) (hmo1 : 1 ≤ (ab m H 1).1) (hk0 : mu_i H 80 4 = 112) : mu_TI (mu_D (d + 6)) 140 [.inr (.inr (some 80))] H (fun x H1 => (x = 0 ∧ ps m H1 ∧ pt m B H H1 ∧ ps_pot m H1 ≤ ps_pot m H + 60) ∨ (x = 1 ∧ ps m H1 ∧ pt m B H H1 ∧ ps_pot m H1 + 0 ≤ ps_pot m H ∧ PC m H1)) := by
  refine mu_meth (M := mu_m140) rfl rfl ?_
  refine mw_ht (mu_fn_of (show [0].Nodup by decide)) ?_
  refine mw_go mu_g140 (k := 4) (f1 := (6, [(1, .inl (mu_i H 80 5)), (0, .inr (.inr (some 80)))], [.inr (.inr (some 80))], H)) (C := [mu_is H (some 80) 7]) rfl (show mu_is H (some 80) 7 from h.1.is rfl) ?_
  refine mw_cV (fun _ => rfl) (show mu_is H (some 80) 7 from h.1.is rfl) (pb_adv (d := (d + 3)) (B := B) h) (fun H1 q1 => ?_)
  obtain ⟨⟨hp1, qt1, qk1, qb1, qc1⟩, qa1⟩ := q1
  have ht1 := (pt.refl m B H).trans qt1
  have qs1 : gi_sz H1 89 = gi_sz H 89 := qk1.2
  have ha1 : ab m H1 = (ab m H) := qa1
  have qd1 := qc1 (show mu_i H 80 4 < 114 from (show (mu_i H 80 4) < 114 from (by rw [hk0]; decide)))
  refine mw_go mu_g140 (k := 2) (f1 := (12, [(1, .inl (mu_i H 80 5)), (0, .inr (.inr (some 80)))], [.inl (97 : Int32), .inr (.inr (some 80))], H1)) (C := []) rfl trivial ?_
  refine mw_cI (fun _ => rfl) (show mu_is H1 (some 80) 7 from hp1.1.is rfl) (pb_take (d := (d + 2)) (B := B) hp1 (97 : Int32) (by decide)) (fun x2 H2 q2 => ?_)
  rcases q2 with ⟨rfl, rfl, qe2⟩ | ⟨rfl, hp2, qt2, qk2, qb2, qe2, qa2⟩
  · -- (0 : Int32)
    refine mw_if (P := (0 : Int32) = 0) (a := 33) (b := 18) (fun _ => rfl) trivial (fun h3 => ?_) (fun h3 => absurd (by decide) h3)
    refine mw_go mu_g140 (k := 1) (f1 := (34, [(1, .inl (mu_i H 80 5)), (0, .inr (.inr (some 80)))], [.inl (0 : Int32)], H1)) (C := []) rfl trivial ?_
    exact mw_of (fun _ => mu_ret rfl (Or.inl rfl) ⟨_, H1, rfl, Or.inl ⟨rfl, hp1, ht1, by omega⟩⟩)
  · -- (1 : Int32)
    have ht2 := ht1.trans qt2
    have qs2 : gi_sz H2 89 = gi_sz H1 89 := qk2.2
    have ha2 : ab m H2 = (ab m H) := qa2.trans (by rw [ha1])
    refine mw_if (P := (1 : Int32) = 0) (a := 33) (b := 18) (fun _ => rfl) trivial (fun h4 => absurd h4 (by decide)) (fun h4 => ?_)
    refine mw_go mu_g140 (k := 4) (f1 := (23, [(1, .inl (mu_i H 80 5)), (0, .inr (.inr (some 80)))], [.inl (5 : Int32), .inl (mu_i H 80 5), .inl (41 : Int32), .inr (.inr (some 80))], H2)) (C := []) rfl trivial ?_
    refine mw_cI (fun _ => rfl) (show mu_is H2 (some 80) 7 from hp2.1.is rfl) (pb_start (d := d) (B := B) hp2 hBB (by omega) (41 : Int32) (mu_i H 80 5) (5 : Int32) ⟨41, by decide, rfl⟩) (fun x5 H5 q5 => ?_)
    rcases q5 with ⟨rfl, hp5, qt5, qi5, qs5, qb5, qm5, q9_5, qa5⟩
    · -- (1 : Int32)
      have ht5 := ht2.trans qt5
      have hc5 : ps_mp (mu_i H2 80 6) = ps_mp (mu_i H 80 6) := congrArg ps_mp (show mu_i H2 80 6 = (mu_i H 80 6) from ((qk2.1 6 (by decide)).trans (qk1.1 6 (by decide))))
      have ha5 : ab m H5 = (tp 11 (ab m H) (41 : Int32) (mu_i H 80 5) 0 0) := qa5.trans (by rw [ha2])
      have hw5 : ps_mp (5 : Int32) = 0 := rfl
      refine mw_if (P := (1 : Int32) = 0) (a := 33) (b := 29) (fun _ => rfl) trivial (fun h6 => absurd h6 (by decide)) (fun h6 => ?_)
      refine mw_go mu_g140 (k := 2) (f1 := (34, [(1, .inl (mu_i H 80 5)), (0, .inr (.inr (some 80)))], [.inl (1 : Int32)], H5)) (C := []) rfl trivial ?_
      exact mw_of (fun _ => mu_ret rfl (Or.inr rfl) ⟨_, H5, rfl, Or.inr ⟨rfl, hp5, ht5, by omega, (PC_c (show mu_i H5 80 6 = 5 from qm5) (show mu_i H5 80 9 = _ from (q9_5.trans (sz_n hp2 ha2 (j := 0) (by decide)))) ha5 (cy_item (k := 41) hc0 (Nat.le_of_succ_le (pot_0 (m := m) (H := H) (by omega))) hmo1 hst0 (by decide)) (Or.inl ⟨Or.inl rfl, rfl, rfl⟩))⟩⟩)
theorem pb_line (h : ps m H) (hBB : B ≤ 1000000) (hB : ps_pot m H ≤ B + 80) (hc0 : CT (ab m H)) (hst0 : (ab m H 11).1 = 0) (hmo1 : 1 ≤ (ab m H 1).1) : mu_TI (mu_D (d + 6)) 141 [.inr (.inr (some 80))] H (fun x H1 => (x = 0 ∧ ps m H1 ∧ pt m B H H1 ∧ ps_pot m H1 ≤ ps_pot m H + 60) ∨ (x = 1 ∧ ps m H1 ∧ pt m B H H1 ∧ ps_pot m H1 + 0 ≤ ps_pot m H ∧ PC m H1)) := by
  refine mu_meth (M := mu_m141) rfl rfl ?_
  refine mw_ht (mu_fn_of (show [0].Nodup by decide)) ?_
  refine mw_go mu_g141 (k := 4) (f1 := (7, [(0, .inr (.inr (some 80)))], [.inl (9 : Int32), .inl (mu_i H 80 4), .inr (.inr (some 80))], H)) (C := [mu_is H (some 80) 7]) rfl (show mu_is H (some 80) 7 from h.1.is rfl) ?_
  refine mw_if (P := (mu_i H 80 4) = (9 : Int32)) (a := 10) (b := 14) (fun _ => rfl) trivial (fun h1 => ?_) (fun h1 => ?_)
  · -- 10: (mu_i H 80 4) = (9 : Int32)
    refine mw_go mu_g141 (k := 6) (f1 := (36, [(0, .inr (.inr (some 80)))], [.inl (1 : Int32), .inl (2 : Int32)], (mu_si H 80 11 (2 : Int32)))) (C := [mu_is H (some 80) 7, mu_is (mu_si H 80 11 (2 : Int32)) (some 80) 7]) rfl (show (mu_is H (some 80) 7) ∧ (mu_is (mu_si H 80 11 (2 : Int32)) (some 80) 7) from ⟨h.1.is rfl, h.1.is rfl⟩) ?_
    refine mw_if (P := (2 : Int32) = (1 : Int32)) (a := 54) (b := 39) (fun _ => rfl) trivial (fun h2 => absurd h2 (by decide)) (fun h2 => ?_)
    refine mw_go mu_g141 (k := 1) (f1 := (40, [(0, .inr (.inr (some 80)))], [.inr (.inr (some 80))], (mu_si H 80 11 (2 : Int32)))) (C := []) rfl trivial ?_
    have hp3 : ps m (mu_si H 80 11 (2 : Int32)) := h.si (by decide) (by decide)
    have ht3 : pt m B H (mu_si H 80 11 (2 : Int32)) := (pt.refl m B H).trans (pt.si h)
    have ha3 : ab m (mu_si H 80 11 (2 : Int32)) = (ab m H) := ab_si h.1 h.2.1
    have hb3 : ps_pot m (mu_si H 80 11 (2 : Int32)) = ps_pot m H := ps_potj h (2 : Int32) (by decide) (by decide)
    have hs3 : gi_sz (mu_si H 80 11 (2 : Int32)) 89 = gi_sz H 89 := rfl
    refine mw_cV (fun _ => rfl) (show mu_is (mu_si H 80 11 (2 : Int32)) (some 80) 7 from hp3.1.is rfl) (pb_adv (d := (d + 3)) (B := B) hp3) (fun H5 q5 => ?_)
    obtain ⟨⟨hp5, qt5, qk5, qb5, qc5⟩, qa5⟩ := q5
    have ht5 := ht3.trans qt5
    have qs5 : gi_sz H5 89 = gi_sz (mu_si H 80 11 (2 : Int32)) 89 := qk5.2
    have ha5 : ab m H5 = (ab m H) := qa5.trans (by rw [ha3])
    have qd5 := qc5 (show mu_i (mu_si H 80 11 (2 : Int32)) 80 4 < 114 from (show (mu_i H 80 4) < 114 from (by rw [h1]; decide)))
    refine mw_go mu_g141 (k := 2) (f1 := (46, [(0, .inr (.inr (some 80)))], [.inl (64 : Int32), .inr (.inr (some 80))], H5)) (C := []) rfl trivial ?_
    refine mw_cI (fun _ => rfl) (show mu_is H5 (some 80) 7 from hp5.1.is rfl) (pb_take (d := (d + 2)) (B := B) hp5 (64 : Int32) (by decide)) (fun x6 H6 q6 => ?_)
    rcases q6 with ⟨rfl, rfl, qe6⟩ | ⟨rfl, hp6, qt6, qk6, qb6, qe6, qa6⟩
    · -- (0 : Int32)
      refine mw_if (P := (0 : Int32) = 0) (a := 52) (b := 54) (fun _ => rfl) trivial (fun h7 => ?_) (fun h7 => absurd (by decide) h7)
      refine mw_go mu_g141 (k := 1) (f1 := (53, [(0, .inr (.inr (some 80)))], [.inl (0 : Int32)], H5)) (C := []) rfl trivial ?_
      exact mw_of (fun _ => mu_ret rfl (Or.inl rfl) ⟨_, H5, rfl, Or.inl ⟨rfl, hp5, ht5, by omega⟩⟩)
    · -- (1 : Int32)
      have ht6 := ht5.trans qt6
      have qs6 : gi_sz H6 89 = gi_sz H5 89 := qk6.2
      have ha6 : ab m H6 = (ab m H) := qa6.trans (by rw [ha5])
      refine mw_if (P := (1 : Int32) = 0) (a := 52) (b := 54) (fun _ => rfl) trivial (fun h8 => absurd h8 (by decide)) (fun h8 => ?_)
      refine mw_go mu_g141 (k := 6) (f1 := (65, [(0, .inr (.inr (some 80)))], [.inl (112 : Int32), .inr (.inr (some 80))], (mu_si H6 80 10 (mu_i H6 80 5)))) (C := [mu_is H6 (some 80) 7, mu_is H6 (some 80) 7]) rfl (show (mu_is H6 (some 80) 7) ∧ (mu_is H6 (some 80) 7) from ⟨hp6.1.is rfl, hp6.1.is rfl⟩) ?_
      have hp9 : ps m (mu_si H6 80 10 (mu_i H6 80 5)) := hp6.si (by decide) (by decide)
      have ht9 : pt m B H (mu_si H6 80 10 (mu_i H6 80 5)) := ht6.trans (pt.si hp6)
      have ha9 : ab m (mu_si H6 80 10 (mu_i H6 80 5)) = (ab m H) := (ab_si hp6.1 hp6.2.1).trans ha6
      have hb9 : ps_pot m (mu_si H6 80 10 (mu_i H6 80 5)) = ps_pot m H6 := ps_potj hp6 (mu_i H6 80 5) (by decide) (by decide)
      have hs9 : gi_sz (mu_si H6 80 10 (mu_i H6 80 5)) 89 = gi_sz H6 89 := rfl
      have hi10_6 : mu_i (mu_si H6 80 10 (mu_i H6 80 5)) 80 6 = (mu_i H 80 6) := ((qk6.1 6 (by decide)).trans (qk5.1 6 (by decide)))
      have hi10_7 : mu_i (mu_si H6 80 10 (mu_i H6 80 5)) 80 7 = (mu_i H 80 7) := ((qk6.1 7 (by decide)).trans (qk5.1 7 (by decide)))
      have hi10_8 : mu_i (mu_si H6 80 10 (mu_i H6 80 5)) 80 8 = (mu_i H 80 8) := ((qk6.1 8 (by decide)).trans (qk5.1 8 (by decide)))
      have hi10_9 : mu_i (mu_si H6 80 10 (mu_i H6 80 5)) 80 9 = (mu_i H 80 9) := ((qk6.1 9 (by decide)).trans (qk5.1 9 (by decide)))
      have hi10_11 : mu_i (mu_si H6 80 10 (mu_i H6 80 5)) 80 11 = (2 : Int32) := ((qk6.1 11 (by decide)).trans (qk5.1 11 (by decide)))
      refine mw_cI (fun _ => rfl) (show mu_is (mu_si H6 80 10 (mu_i H6 80 5)) (some 80) 7 from hp9.1.is rfl) (pb_take (d := (d + 2)) (B := B) hp9 (112 : Int32) (by decide)) (fun x11 H11 q11 => ?_)
      rcases q11 with ⟨rfl, rfl, qe11⟩ | ⟨rfl, hp11, qt11, qk11, qb11, qe11, qa11⟩
      · -- (0 : Int32)
        refine mw_if (P := (0 : Int32) = 0) (a := 97) (b := 71) (fun _ => rfl) trivial (fun h12 => ?_) (fun h12 => absurd (by decide) h12)
        refine mw_go mu_g141 (k := 1) (f1 := (98, [(0, .inr (.inr (some 80)))], [.inl (0 : Int32)], (mu_si H6 80 10 (mu_i H6 80 5)))) (C := []) rfl trivial ?_
        exact mw_of (fun _ => mu_ret rfl (Or.inl rfl) ⟨_, (mu_si H6 80 10 (mu_i H6 80 5)), rfl, Or.inl ⟨rfl, hp9, ht9, by omega⟩⟩)
      · -- (1 : Int32)
        have ht11 := ht9.trans qt11
        have qs11 : gi_sz H11 89 = gi_sz (mu_si H6 80 10 (mu_i H6 80 5)) 89 := qk11.2
        have ha11 : ab m H11 = (ab m H) := qa11.trans (by rw [ha9])
        refine mw_if (P := (1 : Int32) = 0) (a := 97) (b := 71) (fun _ => rfl) trivial (fun h13 => absurd h13 (by decide)) (fun h13 => ?_)
        refine mw_go mu_g141 (k := 2) (f1 := (75, [(0, .inr (.inr (some 80)))], [.inl (mu_i H11 80 11)], H11)) (C := [mu_is H11 (some 80) 7]) rfl (show mu_is H11 (some 80) 7 from hp11.1.is rfl) ?_
        rw [((qk11.1 11 (by decide)).trans hi10_11)]
        refine mw_go mu_g141 (k := 1) (f1 := (76, [(0, .inr (.inr (some 80)))], [.inl (1 : Int32), .inl (2 : Int32)], H11)) (C := []) rfl trivial ?_
        refine mw_if (P := (2 : Int32) = (1 : Int32)) (a := 88) (b := 79) (fun _ => rfl) trivial (fun h14 => absurd h14 (by decide)) (fun h14 => ?_)
        refine mw_go mu_g141 (k := 2) (f1 := (82, [(0, .inr (.inr (some 80)))], [.inl (65 : Int32), .inr (.inr (some 80))], H11)) (C := []) rfl trivial ?_
        refine mw_cI (fun _ => rfl) (show mu_is H11 (some 80) 7 from hp11.1.is rfl) (pb_take (d := (d + 2)) (B := B) hp11 (65 : Int32) (by decide)) (fun x15 H15 q15 => ?_)
        rcases q15 with ⟨rfl, rfl, qe15⟩ | ⟨rfl, hp15, qt15, qk15, qb15, qe15, qa15⟩
        · -- (0 : Int32)
          refine mw_if (P := (0 : Int32) = 0) (a := 97) (b := 88) (fun _ => rfl) trivial (fun h16 => ?_) (fun h16 => absurd (by decide) h16)
          refine mw_go mu_g141 (k := 1) (f1 := (98, [(0, .inr (.inr (some 80)))], [.inl (0 : Int32)], H11)) (C := []) rfl trivial ?_
          exact mw_of (fun _ => mu_ret rfl (Or.inl rfl) ⟨_, H11, rfl, Or.inl ⟨rfl, hp11, ht11, by omega⟩⟩)
        · -- (1 : Int32)
          have ht15 := ht11.trans qt15
          have qs15 : gi_sz H15 89 = gi_sz H11 89 := qk15.2
          have ha15 : ab m H15 = (ab m H) := qa15.trans (by rw [ha11])
          refine mw_if (P := (1 : Int32) = 0) (a := 97) (b := 88) (fun _ => rfl) trivial (fun h17 => absurd h17 (by decide)) (fun h17 => ?_)
          refine mw_go mu_g141 (k := 2) (f1 := (91, [(0, .inr (.inr (some 80)))], [.inl (97 : Int32), .inr (.inr (some 80))], H15)) (C := []) rfl trivial ?_
          refine mw_cI (fun _ => rfl) (show mu_is H15 (some 80) 7 from hp15.1.is rfl) (pb_take (d := (d + 2)) (B := B) hp15 (97 : Int32) (by decide)) (fun x18 H18 q18 => ?_)
          rcases q18 with ⟨rfl, rfl, qe18⟩ | ⟨rfl, hp18, qt18, qk18, qb18, qe18, qa18⟩
          · -- (0 : Int32)
            refine mw_if (P := (0 : Int32) = 0) (a := 97) (b := 99) (fun _ => rfl) trivial (fun h19 => ?_) (fun h19 => absurd (by decide) h19)
            refine mw_go mu_g141 (k := 1) (f1 := (98, [(0, .inr (.inr (some 80)))], [.inl (0 : Int32)], H15)) (C := []) rfl trivial ?_
            exact mw_of (fun _ => mu_ret rfl (Or.inl rfl) ⟨_, H15, rfl, Or.inl ⟨rfl, hp15, ht15, by omega⟩⟩)
          · -- (1 : Int32)
            have ht18 := ht15.trans qt18
            have qs18 : gi_sz H18 89 = gi_sz H15 89 := qk18.2
            have ha18 : ab m H18 = (ab m H) := qa18.trans (by rw [ha15])
            refine mw_if (P := (1 : Int32) = 0) (a := 97) (b := 99) (fun _ => rfl) trivial (fun h20 => absurd h20 (by decide)) (fun h20 => ?_)
            refine mw_go mu_g141 (k := 4) (f1 := (105, [(0, .inr (.inr (some 80)))], [.inl (7 : Int32), .inl (0 : Int32), .inl (43 : Int32), .inr (.inr (some 80))], H18)) (C := []) rfl trivial ?_
            refine mw_cI (fun _ => rfl) (show mu_is H18 (some 80) 7 from hp18.1.is rfl) (pb_start (d := d) (B := B) hp18 hBB (by omega) (43 : Int32) (0 : Int32) (7 : Int32) ⟨43, by decide, rfl⟩) (fun x21 H21 q21 => ?_)
            rcases q21 with ⟨rfl, hp21, qt21, qi21, qs21, qb21, qm21, q9_21, qa21⟩
            · -- (1 : Int32)
              have ht21 := ht18.trans qt21
              have hc21 : ps_mp (mu_i H18 80 6) = ps_mp (mu_i H 80 6) := congrArg ps_mp (show mu_i H18 80 6 = (mu_i H 80 6) from ((qk18.1 6 (by decide)).trans ((qk15.1 6 (by decide)).trans ((qk11.1 6 (by decide)).trans hi10_6))))
              have ha21 : ab m H21 = (tp 11 (ab m H) (43 : Int32) (0 : Int32) 0 0) := qa21.trans (by rw [ha18])
              have hw21 : ps_mp (7 : Int32) = 4 := rfl
              exact mw_of (fun _ => mu_ret rfl (Or.inr rfl) ⟨_, H21, rfl, Or.inr ⟨rfl, hp21, ht21, by omega, (PC_c (show mu_i H21 80 6 = 7 from qm21) (show mu_i H21 80 9 = _ from (q9_21.trans (sz_n hp18 ha18 (j := 0) (by decide)))) ha21 (cy_line hc0 (Nat.le_of_succ_le (pot_0 (m := m) (H := H) (by omega))) hmo1 hst0) (Or.inr (Or.inl ⟨rfl, rfl, rfl⟩)))⟩⟩)
  · -- 14: not (mu_i H 80 4) = (9 : Int32)
    refine mw_go mu_g141 (k := 3) (f1 := (20, [(0, .inr (.inr (some 80)))], [.inl (10 : Int32), .inl (mu_i H 80 4), .inr (.inr (some 80))], H)) (C := [mu_is H (some 80) 7]) rfl (show mu_is H (some 80) 7 from h.1.is rfl) ?_
    refine mw_if (P := (mu_i H 80 4) = (10 : Int32)) (a := 23) (b := 27) (fun _ => rfl) trivial (fun h22 => ?_) (fun h22 => ?_)
    · -- 23: (mu_i H 80 4) = (10 : Int32)
      refine mw_go mu_g141 (k := 6) (f1 := (36, [(0, .inr (.inr (some 80)))], [.inl (1 : Int32), .inl (4 : Int32)], (mu_si H 80 11 (4 : Int32)))) (C := [mu_is H (some 80) 7, mu_is (mu_si H 80 11 (4 : Int32)) (some 80) 7]) rfl (show (mu_is H (some 80) 7) ∧ (mu_is (mu_si H 80 11 (4 : Int32)) (some 80) 7) from ⟨h.1.is rfl, h.1.is rfl⟩) ?_
      refine mw_if (P := (4 : Int32) = (1 : Int32)) (a := 54) (b := 39) (fun _ => rfl) trivial (fun h23 => absurd h23 (by decide)) (fun h23 => ?_)
      refine mw_go mu_g141 (k := 1) (f1 := (40, [(0, .inr (.inr (some 80)))], [.inr (.inr (some 80))], (mu_si H 80 11 (4 : Int32)))) (C := []) rfl trivial ?_
      have hp24 : ps m (mu_si H 80 11 (4 : Int32)) := h.si (by decide) (by decide)
      have ht24 : pt m B H (mu_si H 80 11 (4 : Int32)) := (pt.refl m B H).trans (pt.si h)
      have ha24 : ab m (mu_si H 80 11 (4 : Int32)) = (ab m H) := ab_si h.1 h.2.1
      have hb24 : ps_pot m (mu_si H 80 11 (4 : Int32)) = ps_pot m H := ps_potj h (4 : Int32) (by decide) (by decide)
      have hs24 : gi_sz (mu_si H 80 11 (4 : Int32)) 89 = gi_sz H 89 := rfl
      refine mw_cV (fun _ => rfl) (show mu_is (mu_si H 80 11 (4 : Int32)) (some 80) 7 from hp24.1.is rfl) (pb_adv (d := (d + 3)) (B := B) hp24) (fun H26 q26 => ?_)
      obtain ⟨⟨hp26, qt26, qk26, qb26, qc26⟩, qa26⟩ := q26
      have ht26 := ht24.trans qt26
      have qs26 : gi_sz H26 89 = gi_sz (mu_si H 80 11 (4 : Int32)) 89 := qk26.2
      have ha26 : ab m H26 = (ab m H) := qa26.trans (by rw [ha24])
      have qd26 := qc26 (show mu_i (mu_si H 80 11 (4 : Int32)) 80 4 < 114 from (show (mu_i H 80 4) < 114 from (by rw [h22]; decide)))
      refine mw_go mu_g141 (k := 2) (f1 := (46, [(0, .inr (.inr (some 80)))], [.inl (64 : Int32), .inr (.inr (some 80))], H26)) (C := []) rfl trivial ?_
      refine mw_cI (fun _ => rfl) (show mu_is H26 (some 80) 7 from hp26.1.is rfl) (pb_take (d := (d + 2)) (B := B) hp26 (64 : Int32) (by decide)) (fun x27 H27 q27 => ?_)
      rcases q27 with ⟨rfl, rfl, qe27⟩ | ⟨rfl, hp27, qt27, qk27, qb27, qe27, qa27⟩
      · -- (0 : Int32)
        refine mw_if (P := (0 : Int32) = 0) (a := 52) (b := 54) (fun _ => rfl) trivial (fun h28 => ?_) (fun h28 => absurd (by decide) h28)
        refine mw_go mu_g141 (k := 1) (f1 := (53, [(0, .inr (.inr (some 80)))], [.inl (0 : Int32)], H26)) (C := []) rfl trivial ?_
        exact mw_of (fun _ => mu_ret rfl (Or.inl rfl) ⟨_, H26, rfl, Or.inl ⟨rfl, hp26, ht26, by omega⟩⟩)
      · -- (1 : Int32)
        have ht27 := ht26.trans qt27
        have qs27 : gi_sz H27 89 = gi_sz H26 89 := qk27.2
        have ha27 : ab m H27 = (ab m H) := qa27.trans (by rw [ha26])
        refine mw_if (P := (1 : Int32) = 0) (a := 52) (b := 54) (fun _ => rfl) trivial (fun h29 => absurd h29 (by decide)) (fun h29 => ?_)
        refine mw_go mu_g141 (k := 6) (f1 := (65, [(0, .inr (.inr (some 80)))], [.inl (112 : Int32), .inr (.inr (some 80))], (mu_si H27 80 10 (mu_i H27 80 5)))) (C := [mu_is H27 (some 80) 7, mu_is H27 (some 80) 7]) rfl (show (mu_is H27 (some 80) 7) ∧ (mu_is H27 (some 80) 7) from ⟨hp27.1.is rfl, hp27.1.is rfl⟩) ?_
        have hp30 : ps m (mu_si H27 80 10 (mu_i H27 80 5)) := hp27.si (by decide) (by decide)
        have ht30 : pt m B H (mu_si H27 80 10 (mu_i H27 80 5)) := ht27.trans (pt.si hp27)
        have ha30 : ab m (mu_si H27 80 10 (mu_i H27 80 5)) = (ab m H) := (ab_si hp27.1 hp27.2.1).trans ha27
        have hb30 : ps_pot m (mu_si H27 80 10 (mu_i H27 80 5)) = ps_pot m H27 := ps_potj hp27 (mu_i H27 80 5) (by decide) (by decide)
        have hs30 : gi_sz (mu_si H27 80 10 (mu_i H27 80 5)) 89 = gi_sz H27 89 := rfl
        have hi31_6 : mu_i (mu_si H27 80 10 (mu_i H27 80 5)) 80 6 = (mu_i H 80 6) := ((qk27.1 6 (by decide)).trans (qk26.1 6 (by decide)))
        have hi31_7 : mu_i (mu_si H27 80 10 (mu_i H27 80 5)) 80 7 = (mu_i H 80 7) := ((qk27.1 7 (by decide)).trans (qk26.1 7 (by decide)))
        have hi31_8 : mu_i (mu_si H27 80 10 (mu_i H27 80 5)) 80 8 = (mu_i H 80 8) := ((qk27.1 8 (by decide)).trans (qk26.1 8 (by decide)))
        have hi31_9 : mu_i (mu_si H27 80 10 (mu_i H27 80 5)) 80 9 = (mu_i H 80 9) := ((qk27.1 9 (by decide)).trans (qk26.1 9 (by decide)))
        have hi31_11 : mu_i (mu_si H27 80 10 (mu_i H27 80 5)) 80 11 = (4 : Int32) := ((qk27.1 11 (by decide)).trans (qk26.1 11 (by decide)))
        refine mw_cI (fun _ => rfl) (show mu_is (mu_si H27 80 10 (mu_i H27 80 5)) (some 80) 7 from hp30.1.is rfl) (pb_take (d := (d + 2)) (B := B) hp30 (112 : Int32) (by decide)) (fun x32 H32 q32 => ?_)
        rcases q32 with ⟨rfl, rfl, qe32⟩ | ⟨rfl, hp32, qt32, qk32, qb32, qe32, qa32⟩
        · -- (0 : Int32)
          refine mw_if (P := (0 : Int32) = 0) (a := 97) (b := 71) (fun _ => rfl) trivial (fun h33 => ?_) (fun h33 => absurd (by decide) h33)
          refine mw_go mu_g141 (k := 1) (f1 := (98, [(0, .inr (.inr (some 80)))], [.inl (0 : Int32)], (mu_si H27 80 10 (mu_i H27 80 5)))) (C := []) rfl trivial ?_
          exact mw_of (fun _ => mu_ret rfl (Or.inl rfl) ⟨_, (mu_si H27 80 10 (mu_i H27 80 5)), rfl, Or.inl ⟨rfl, hp30, ht30, by omega⟩⟩)
        · -- (1 : Int32)
          have ht32 := ht30.trans qt32
          have qs32 : gi_sz H32 89 = gi_sz (mu_si H27 80 10 (mu_i H27 80 5)) 89 := qk32.2
          have ha32 : ab m H32 = (ab m H) := qa32.trans (by rw [ha30])
          refine mw_if (P := (1 : Int32) = 0) (a := 97) (b := 71) (fun _ => rfl) trivial (fun h34 => absurd h34 (by decide)) (fun h34 => ?_)
          refine mw_go mu_g141 (k := 2) (f1 := (75, [(0, .inr (.inr (some 80)))], [.inl (mu_i H32 80 11)], H32)) (C := [mu_is H32 (some 80) 7]) rfl (show mu_is H32 (some 80) 7 from hp32.1.is rfl) ?_
          rw [((qk32.1 11 (by decide)).trans hi31_11)]
          refine mw_go mu_g141 (k := 1) (f1 := (76, [(0, .inr (.inr (some 80)))], [.inl (1 : Int32), .inl (4 : Int32)], H32)) (C := []) rfl trivial ?_
          refine mw_if (P := (4 : Int32) = (1 : Int32)) (a := 88) (b := 79) (fun _ => rfl) trivial (fun h35 => absurd h35 (by decide)) (fun h35 => ?_)
          refine mw_go mu_g141 (k := 2) (f1 := (82, [(0, .inr (.inr (some 80)))], [.inl (65 : Int32), .inr (.inr (some 80))], H32)) (C := []) rfl trivial ?_
          refine mw_cI (fun _ => rfl) (show mu_is H32 (some 80) 7 from hp32.1.is rfl) (pb_take (d := (d + 2)) (B := B) hp32 (65 : Int32) (by decide)) (fun x36 H36 q36 => ?_)
          rcases q36 with ⟨rfl, rfl, qe36⟩ | ⟨rfl, hp36, qt36, qk36, qb36, qe36, qa36⟩
          · -- (0 : Int32)
            refine mw_if (P := (0 : Int32) = 0) (a := 97) (b := 88) (fun _ => rfl) trivial (fun h37 => ?_) (fun h37 => absurd (by decide) h37)
            refine mw_go mu_g141 (k := 1) (f1 := (98, [(0, .inr (.inr (some 80)))], [.inl (0 : Int32)], H32)) (C := []) rfl trivial ?_
            exact mw_of (fun _ => mu_ret rfl (Or.inl rfl) ⟨_, H32, rfl, Or.inl ⟨rfl, hp32, ht32, by omega⟩⟩)
          · -- (1 : Int32)
            have ht36 := ht32.trans qt36
            have qs36 : gi_sz H36 89 = gi_sz H32 89 := qk36.2
            have ha36 : ab m H36 = (ab m H) := qa36.trans (by rw [ha32])
            refine mw_if (P := (1 : Int32) = 0) (a := 97) (b := 88) (fun _ => rfl) trivial (fun h38 => absurd h38 (by decide)) (fun h38 => ?_)
            refine mw_go mu_g141 (k := 2) (f1 := (91, [(0, .inr (.inr (some 80)))], [.inl (97 : Int32), .inr (.inr (some 80))], H36)) (C := []) rfl trivial ?_
            refine mw_cI (fun _ => rfl) (show mu_is H36 (some 80) 7 from hp36.1.is rfl) (pb_take (d := (d + 2)) (B := B) hp36 (97 : Int32) (by decide)) (fun x39 H39 q39 => ?_)
            rcases q39 with ⟨rfl, rfl, qe39⟩ | ⟨rfl, hp39, qt39, qk39, qb39, qe39, qa39⟩
            · -- (0 : Int32)
              refine mw_if (P := (0 : Int32) = 0) (a := 97) (b := 99) (fun _ => rfl) trivial (fun h40 => ?_) (fun h40 => absurd (by decide) h40)
              refine mw_go mu_g141 (k := 1) (f1 := (98, [(0, .inr (.inr (some 80)))], [.inl (0 : Int32)], H36)) (C := []) rfl trivial ?_
              exact mw_of (fun _ => mu_ret rfl (Or.inl rfl) ⟨_, H36, rfl, Or.inl ⟨rfl, hp36, ht36, by omega⟩⟩)
            · -- (1 : Int32)
              have ht39 := ht36.trans qt39
              have qs39 : gi_sz H39 89 = gi_sz H36 89 := qk39.2
              have ha39 : ab m H39 = (ab m H) := qa39.trans (by rw [ha36])
              refine mw_if (P := (1 : Int32) = 0) (a := 97) (b := 99) (fun _ => rfl) trivial (fun h41 => absurd h41 (by decide)) (fun h41 => ?_)
              refine mw_go mu_g141 (k := 4) (f1 := (105, [(0, .inr (.inr (some 80)))], [.inl (7 : Int32), .inl (0 : Int32), .inl (43 : Int32), .inr (.inr (some 80))], H39)) (C := []) rfl trivial ?_
              refine mw_cI (fun _ => rfl) (show mu_is H39 (some 80) 7 from hp39.1.is rfl) (pb_start (d := d) (B := B) hp39 hBB (by omega) (43 : Int32) (0 : Int32) (7 : Int32) ⟨43, by decide, rfl⟩) (fun x42 H42 q42 => ?_)
              rcases q42 with ⟨rfl, hp42, qt42, qi42, qs42, qb42, qm42, q9_42, qa42⟩
              · -- (1 : Int32)
                have ht42 := ht39.trans qt42
                have hc42 : ps_mp (mu_i H39 80 6) = ps_mp (mu_i H 80 6) := congrArg ps_mp (show mu_i H39 80 6 = (mu_i H 80 6) from ((qk39.1 6 (by decide)).trans ((qk36.1 6 (by decide)).trans ((qk32.1 6 (by decide)).trans hi31_6))))
                have ha42 : ab m H42 = (tp 11 (ab m H) (43 : Int32) (0 : Int32) 0 0) := qa42.trans (by rw [ha39])
                have hw42 : ps_mp (7 : Int32) = 4 := rfl
                exact mw_of (fun _ => mu_ret rfl (Or.inr rfl) ⟨_, H42, rfl, Or.inr ⟨rfl, hp42, ht42, by omega, (PC_c (show mu_i H42 80 6 = 7 from qm42) (show mu_i H42 80 9 = _ from (q9_42.trans (sz_n hp39 ha39 (j := 0) (by decide)))) ha42 (cy_line hc0 (Nat.le_of_succ_le (pot_0 (m := m) (H := H) (by omega))) hmo1 hst0) (Or.inr (Or.inl ⟨rfl, rfl, rfl⟩)))⟩⟩)
    · -- 27: not (mu_i H 80 4) = (10 : Int32)
      refine mw_go mu_g141 (k := 5) (f1 := (36, [(0, .inr (.inr (some 80)))], [.inl (1 : Int32), .inl (1 : Int32)], (mu_si H 80 11 (1 : Int32)))) (C := [mu_is H (some 80) 7, mu_is (mu_si H 80 11 (1 : Int32)) (some 80) 7]) rfl (show (mu_is H (some 80) 7) ∧ (mu_is (mu_si H 80 11 (1 : Int32)) (some 80) 7) from ⟨h.1.is rfl, h.1.is rfl⟩) ?_
      refine mw_if (P := (1 : Int32) = (1 : Int32)) (a := 54) (b := 39) (fun _ => rfl) trivial (fun h43 => ?_) (fun h43 => absurd (by decide) h43)
      refine mw_go mu_g141 (k := 6) (f1 := (65, [(0, .inr (.inr (some 80)))], [.inl (112 : Int32), .inr (.inr (some 80))], (mu_si (mu_si H 80 11 (1 : Int32)) 80 10 (mu_i H 80 5)))) (C := [mu_is (mu_si H 80 11 (1 : Int32)) (some 80) 7, mu_is (mu_si H 80 11 (1 : Int32)) (some 80) 7]) rfl (show (mu_is (mu_si H 80 11 (1 : Int32)) (some 80) 7) ∧ (mu_is (mu_si H 80 11 (1 : Int32)) (some 80) 7) from ⟨h.1.is rfl, h.1.is rfl⟩) ?_
      have hp44 : ps m (mu_si H 80 11 (1 : Int32)) := h.si (by decide) (by decide)
      have ht44 : pt m B H (mu_si H 80 11 (1 : Int32)) := (pt.refl m B H).trans (pt.si h)
      have ha44 : ab m (mu_si H 80 11 (1 : Int32)) = (ab m H) := ab_si h.1 h.2.1
      have hb44 : ps_pot m (mu_si H 80 11 (1 : Int32)) = ps_pot m H := ps_potj h (1 : Int32) (by decide) (by decide)
      have hs44 : gi_sz (mu_si H 80 11 (1 : Int32)) 89 = gi_sz H 89 := rfl
      have hp45 : ps m (mu_si (mu_si H 80 11 (1 : Int32)) 80 10 (mu_i H 80 5)) := hp44.si (by decide) (by decide)
      have ht45 : pt m B H (mu_si (mu_si H 80 11 (1 : Int32)) 80 10 (mu_i H 80 5)) := ht44.trans (pt.si hp44)
      have ha45 : ab m (mu_si (mu_si H 80 11 (1 : Int32)) 80 10 (mu_i H 80 5)) = (ab m H) := (ab_si hp44.1 hp44.2.1).trans ha44
      have hb45 : ps_pot m (mu_si (mu_si H 80 11 (1 : Int32)) 80 10 (mu_i H 80 5)) = ps_pot m (mu_si H 80 11 (1 : Int32)) := ps_potj hp44 (mu_i H 80 5) (by decide) (by decide)
      have hs45 : gi_sz (mu_si (mu_si H 80 11 (1 : Int32)) 80 10 (mu_i H 80 5)) 89 = gi_sz (mu_si H 80 11 (1 : Int32)) 89 := rfl
      refine mw_cI (fun _ => rfl) (show mu_is (mu_si (mu_si H 80 11 (1 : Int32)) 80 10 (mu_i H 80 5)) (some 80) 7 from hp45.1.is rfl) (pb_take (d := (d + 2)) (B := B) hp45 (112 : Int32) (by decide)) (fun x47 H47 q47 => ?_)
      rcases q47 with ⟨rfl, rfl, qe47⟩ | ⟨rfl, hp47, qt47, qk47, qb47, qe47, qa47⟩
      · -- (0 : Int32)
        refine mw_if (P := (0 : Int32) = 0) (a := 97) (b := 71) (fun _ => rfl) trivial (fun h48 => ?_) (fun h48 => absurd (by decide) h48)
        refine mw_go mu_g141 (k := 1) (f1 := (98, [(0, .inr (.inr (some 80)))], [.inl (0 : Int32)], (mu_si (mu_si H 80 11 (1 : Int32)) 80 10 (mu_i H 80 5)))) (C := []) rfl trivial ?_
        exact mw_of (fun _ => mu_ret rfl (Or.inl rfl) ⟨_, (mu_si (mu_si H 80 11 (1 : Int32)) 80 10 (mu_i H 80 5)), rfl, Or.inl ⟨rfl, hp45, ht45, by omega⟩⟩)
      · -- (1 : Int32)
        have ht47 := ht45.trans qt47
        have qs47 : gi_sz H47 89 = gi_sz (mu_si (mu_si H 80 11 (1 : Int32)) 80 10 (mu_i H 80 5)) 89 := qk47.2
        have ha47 : ab m H47 = (ab m H) := qa47.trans (by rw [ha45])
        refine mw_if (P := (1 : Int32) = 0) (a := 97) (b := 71) (fun _ => rfl) trivial (fun h49 => absurd h49 (by decide)) (fun h49 => ?_)
        refine mw_go mu_g141 (k := 2) (f1 := (75, [(0, .inr (.inr (some 80)))], [.inl (mu_i H47 80 11)], H47)) (C := [mu_is H47 (some 80) 7]) rfl (show mu_is H47 (some 80) 7 from hp47.1.is rfl) ?_
        rw [(qk47.1 11 (by decide))]
        refine mw_go mu_g141 (k := 1) (f1 := (76, [(0, .inr (.inr (some 80)))], [.inl (1 : Int32), .inl (1 : Int32)], H47)) (C := []) rfl trivial ?_
        refine mw_if (P := (1 : Int32) = (1 : Int32)) (a := 88) (b := 79) (fun _ => rfl) trivial (fun h50 => ?_) (fun h50 => absurd (by decide) h50)
        refine mw_go mu_g141 (k := 2) (f1 := (91, [(0, .inr (.inr (some 80)))], [.inl (97 : Int32), .inr (.inr (some 80))], H47)) (C := []) rfl trivial ?_
        refine mw_cI (fun _ => rfl) (show mu_is H47 (some 80) 7 from hp47.1.is rfl) (pb_take (d := (d + 2)) (B := B) hp47 (97 : Int32) (by decide)) (fun x51 H51 q51 => ?_)
        rcases q51 with ⟨rfl, rfl, qe51⟩ | ⟨rfl, hp51, qt51, qk51, qb51, qe51, qa51⟩
        · -- (0 : Int32)
          refine mw_if (P := (0 : Int32) = 0) (a := 97) (b := 99) (fun _ => rfl) trivial (fun h52 => ?_) (fun h52 => absurd (by decide) h52)
          refine mw_go mu_g141 (k := 1) (f1 := (98, [(0, .inr (.inr (some 80)))], [.inl (0 : Int32)], H47)) (C := []) rfl trivial ?_
          exact mw_of (fun _ => mu_ret rfl (Or.inl rfl) ⟨_, H47, rfl, Or.inl ⟨rfl, hp47, ht47, by omega⟩⟩)
        · -- (1 : Int32)
          have ht51 := ht47.trans qt51
          have qs51 : gi_sz H51 89 = gi_sz H47 89 := qk51.2
          have ha51 : ab m H51 = (ab m H) := qa51.trans (by rw [ha47])
          refine mw_if (P := (1 : Int32) = 0) (a := 97) (b := 99) (fun _ => rfl) trivial (fun h53 => absurd h53 (by decide)) (fun h53 => ?_)
          refine mw_go mu_g141 (k := 4) (f1 := (105, [(0, .inr (.inr (some 80)))], [.inl (7 : Int32), .inl (0 : Int32), .inl (43 : Int32), .inr (.inr (some 80))], H51)) (C := []) rfl trivial ?_
          refine mw_cI (fun _ => rfl) (show mu_is H51 (some 80) 7 from hp51.1.is rfl) (pb_start (d := d) (B := B) hp51 hBB (by omega) (43 : Int32) (0 : Int32) (7 : Int32) ⟨43, by decide, rfl⟩) (fun x54 H54 q54 => ?_)
          rcases q54 with ⟨rfl, hp54, qt54, qi54, qs54, qb54, qm54, q9_54, qa54⟩
          · -- (1 : Int32)
            have ht54 := ht51.trans qt54
            have hc54 : ps_mp (mu_i H51 80 6) = ps_mp (mu_i H 80 6) := congrArg ps_mp (show mu_i H51 80 6 = (mu_i H 80 6) from ((qk51.1 6 (by decide)).trans (qk47.1 6 (by decide))))
            have ha54 : ab m H54 = (tp 11 (ab m H) (43 : Int32) (0 : Int32) 0 0) := qa54.trans (by rw [ha51])
            have hw54 : ps_mp (7 : Int32) = 4 := rfl
            exact mw_of (fun _ => mu_ret rfl (Or.inr rfl) ⟨_, H54, rfl, Or.inr ⟨rfl, hp54, ht54, by omega, (PC_c (show mu_i H54 80 6 = 7 from qm54) (show mu_i H54 80 9 = _ from (q9_54.trans (sz_n hp51 ha51 (j := 0) (by decide)))) ha54 (cy_line hc0 (Nat.le_of_succ_le (pot_0 (m := m) (H := H) (by omega))) hmo1 hst0) (Or.inr (Or.inl ⟨rfl, rfl, rfl⟩)))⟩⟩)
end ParserItems2
