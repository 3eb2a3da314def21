/-! Lexer: the symbol of a word -/
/-- PathProver$Lexer.symbolOf(I)I -/
abbrev mu_m117 : ev_M := (2, (some .int), [], ev_b117)
theorem mu_g117 : mu_good mu_m117 := mu_goodk ev_k117
/-- PathProver$Lexer.makeSymbol(I)I -/
abbrev mu_m118 : ev_M := (2, (some .int), [], ev_b118)
theorem mu_g118 : mu_good mu_m118 := mu_goodk ev_k118
theorem rw_set_eq (H : mu_H) (r W n : Nat) (row : Int32) (j : Nat) (v : Int32) : (rw_set H r W n row j v).1 = H.1 ∧ (rw_set H r W n row j v).2.1 = H.2.1 ∧ (rw_set H r W n row j v).2.2.2 = H.2.2.2 := by
  unfold rw_set
  split
  · exact ⟨rfl, rfl, rfl⟩
  · split
    · exact ⟨rfl, rfl, rfl⟩
    · exact ⟨rfl, rfl, rfl⟩
theorem rw_set_r (H : mu_H) (r W n : Nat) (row : Int32) (j : Nat) (v : Int32) (p i : Nat) : mu_r (rw_set H r W n row j v) p i = mu_r H p i := by
  unfold mu_r
  rw [(rw_set_eq H r W n row j v).2.2]
theorem rw_set_is {H : mu_H} {o : Option Nat} {kd : Nat} (h : mu_is H o kd) (r W n : Nat) (row : Int32) (j : Nat) (v : Int32) : mu_is (rw_set H r W n row j v) o kd := by
  refine ⟨h.1, ?_, ?_⟩
  · unfold mu_z
    rw [(rw_set_eq H r W n row j v).2.2]
    exact h.2.1
  · unfold mu_k
    rw [(rw_set_eq H r W n row j v).1]
    exact h.2.2
theorem lx_symbolOf_ok {d q wq nw cw : Nat} {w : Int32} {H : mu_H} (hq : mu_is H (some q) 4) (hw : some wq = mu_r H q 9) (hR : rw_ok H wq 4 nw cw) : mu_TI (mu_D (d + 2)) 117 [.inr (.inr (some q)), .inl w] H (fun x H1 => x = rw_get H wq 4 nw w 3 ∧ H1 = H) := by
  refine mu_meth (M := mu_m117) rfl rfl ?_
  refine mu_go mu_g117 (k := 4) (f1 := (6, [(0, .inr (.inr (some q))), (1, .inl w)], [.inl (3 : Int32), .inl w, .inr (.inr (mu_r H q 9))], H)) (C := [mu_is H (some q) 4]) rfl (show mu_is H (some q) 4 from hq) ?_
  refine mu_cIe rfl (show mu_is H (mu_r H q 9) 10 from by rw [← hw]; exact hR.1) (hw ▸ rw_get_ok (d := d) hR w (j := 3) (by decide)) ?_
  exact mu_ret rfl trivial ⟨_, _, rfl, rfl, rfl⟩
/-- the heap with a new symbol for a word -/
def lx_sym (H : mu_H) (q wq nw : Nat) (w : Int32) : mu_H := (mu_si (rw_set H wq 4 nw w 3 (mu_i H q 11)) q 11 ((mu_i (rw_set H wq 4 nw w 3 (mu_i H q 11)) q 11) + (1 : Int32)))
theorem lx_makeSymbol_ok {d q wq nw cw : Nat} {w : Int32} {H : mu_H} (hq : mu_is H (some q) 4) (hw : some wq = mu_r H q 9) (hR : rw_ok H wq 4 nw cw) : mu_TI (mu_D (d + 2)) 118 [.inr (.inr (some q)), .inl w] H (fun x H1 => x = rw_get H1 wq 4 nw w 3 ∧ H1 = if rw_get H wq 4 nw w 3 < 0 then lx_sym H q wq nw w else H) := by
  have hq2 : mu_is (rw_set H wq 4 nw w 3 (mu_i H q 11)) (some q) 4 := rw_set_is hq _ _ _ _ _ _
  have hne : wq ≠ q := mu_ne_k (show mu_k H wq = 10 from hR.1.2.2) (show mu_k H q = 4 from hq.2.2) (by decide)
  have hR2 : rw_ok (mu_si (rw_set H wq 4 nw w 3 (mu_i H q 11)) q 11 ((mu_i (rw_set H wq 4 nw w 3 (mu_i H q 11)) q 11) + (1 : Int32))) wq 4 nw cw := rw_ok_si (rw_ok_set hR hR) hne
  have hw2 : some wq = mu_r (mu_si (rw_set H wq 4 nw w 3 (mu_i H q 11)) q 11 ((mu_i (rw_set H wq 4 nw w 3 (mu_i H q 11)) q 11) + (1 : Int32))) q 9 := by rw [mu_r_si, rw_set_r]; exact hw
  refine mu_meth (M := mu_m118) rfl rfl ?_
  refine mu_go mu_g118 (k := 4) (f1 := (6, [(0, .inr (.inr (some q))), (1, .inl w)], [.inl (3 : Int32), .inl w, .inr (.inr (mu_r H q 9))], H)) (C := [mu_is H (some q) 4]) rfl (show mu_is H (some q) 4 from hq) ?_
  refine mu_cIe rfl (show mu_is H (mu_r H q 9) 10 from by rw [← hw]; exact hR.1) (hw ▸ rw_get_ok (d := d) hR w (j := 3) (by decide)) ?_
  refine mu_if (P := (rw_get H wq 4 nw w 3) < 0) (a := 12) (b := 35) rfl trivial (fun h2 => ?_) (fun h2 => ?_)
  · -- 12: (rw_get H wq 4 nw w 3) < 0
    refine mu_go mu_g118 (k := 6) (f1 := (22, [(0, .inr (.inr (some q))), (1, .inl w)], [.inl (mu_i H q 11), .inl (3 : Int32), .inl w, .inr (.inr (mu_r H q 9))], H)) (C := [mu_is H (some q) 4, mu_is H (some q) 4]) rfl (show (mu_is H (some q) 4) ∧ (mu_is H (some q) 4) from ⟨hq, hq⟩) ?_
    refine mu_cVe rfl (show mu_is H (mu_r H q 9) 10 from by rw [← hw]; exact hR.1) (hw ▸ rw_set_ok (d := d) hR w (mu_i H q 11) (j := 3) (by decide)) ?_
    refine mu_go mu_g118 (k := 10) (f1 := (41, [(0, .inr (.inr (some q))), (1, .inl w)], [.inl (3 : Int32), .inl w, .inr (.inr (mu_r (mu_si (rw_set H wq 4 nw w 3 (mu_i H q 11)) q 11 ((mu_i (rw_set H wq 4 nw w 3 (mu_i H q 11)) q 11) + (1 : Int32))) q 9))], (mu_si (rw_set H wq 4 nw w 3 (mu_i H q 11)) q 11 ((mu_i (rw_set H wq 4 nw w 3 (mu_i H q 11)) q 11) + (1 : Int32))))) (C := [mu_is (rw_set H wq 4 nw w 3 (mu_i H q 11)) (some q) 4, mu_is (rw_set H wq 4 nw w 3 (mu_i H q 11)) (some q) 4, mu_is (mu_si (rw_set H wq 4 nw w 3 (mu_i H q 11)) q 11 ((mu_i (rw_set H wq 4 nw w 3 (mu_i H q 11)) q 11) + (1 : Int32))) (some q) 4]) rfl (show (mu_is (rw_set H wq 4 nw w 3 (mu_i H q 11)) (some q) 4) ∧ (mu_is (rw_set H wq 4 nw w 3 (mu_i H q 11)) (some q) 4) ∧ (mu_is (mu_si (rw_set H wq 4 nw w 3 (mu_i H q 11)) q 11 ((mu_i (rw_set H wq 4 nw w 3 (mu_i H q 11)) q 11) + (1 : Int32))) (some q) 4) from ⟨hq2, hq2, hq2⟩) ?_
    refine mu_cIe rfl (show mu_is (mu_si (rw_set H wq 4 nw w 3 (mu_i H q 11)) q 11 ((mu_i (rw_set H wq 4 nw w 3 (mu_i H q 11)) q 11) + (1 : Int32))) (mu_r (mu_si (rw_set H wq 4 nw w 3 (mu_i H q 11)) q 11 ((mu_i (rw_set H wq 4 nw w 3 (mu_i H q 11)) q 11) + (1 : Int32))) q 9) 10 from by rw [← hw2]; exact hR2.1) (hw2 ▸ rw_get_ok (d := d) hR2 w (j := 3) (by decide)) ?_
    exact mu_ret rfl trivial ⟨_, _, rfl, rfl, (if_pos h2).symm⟩
  · -- 35: not (rw_get H wq 4 nw w 3) < 0
    refine mu_go mu_g118 (k := 4) (f1 := (41, [(0, .inr (.inr (some q))), (1, .inl w)], [.inl (3 : Int32), .inl w, .inr (.inr (mu_r H q 9))], H)) (C := [mu_is H (some q) 4]) rfl (show mu_is H (some q) 4 from hq) ?_
    refine mu_cIe rfl (show mu_is H (mu_r H q 9) 10 from by rw [← hw]; exact hR.1) (hw ▸ rw_get_ok (d := d) hR w (j := 3) (by decide)) ?_
    exact mu_ret rfl trivial ⟨_, _, rfl, rfl, (if_neg h2).symm⟩
