/-! The reference: no expression stands on itself, the loop and its start -/
def dfc (Hb : mu_H) (D : MD) (H0 : mu_H) (od mt bg N k : Nat) (H : mu_H) : Prop := rms Hb D H ∧ (oar H D.G 22 100 od N ∧ oar H D.G 24 101 mt N ∧ oar H D.G 25 100 bg N ∧ od ≠ bg) ∧ (∀ i, i < k → mu_i H mt i = 0) ∧ rfr [19, 20, 21, 23] [] (fun p => p = od ∨ p = mt ∨ p = bg) 0 0 H0 H ∧ mu_n H od = mu_n H0 od ∧ mu_n H mt = mu_n H0 mt ∧ mu_n H bg = mu_n H0 bg
section Dfc
variable {Hb H0 H : mu_H} {D : MD} {od mt bg N k : Nat} {st ol : Nat → Nat}
theorem dfc.wm (h : dfc Hb D H0 od mt bg N k H) : dfc Hb D H0 od mt bg N (k + 1) (mu_si H mt k 0) := by
  obtain ⟨h1, ⟨a1, a2, a3, a4⟩, h3, h7, h8⟩ := h
  refine ⟨h1.siW ⟨a2.2.2.1, a2.2.1.2.2, gndl9 a2.2.1.1⟩, ⟨a1, a2, a3, a4⟩, fun i hi => ?_, h7.siW ⟨Or.inr (Or.inl rfl), gndl9 a2.2.1.1⟩, h8⟩
  rw [mu_i_si]
  by_cases e : i = k
  · subst e; rw [if_pos ⟨rfl, rfl⟩]
  · rw [if_neg (fun z => e z.2)]; exact h3 i (by omega)
theorem dfc.to (h : dfc Hb D H0 od mt bg N N H) : dfh Hb D H0 od mt bg N (fun _ => 0) st 0 ol 0 (mu_si H 169 23 0) := by
  obtain ⟨h1, ⟨a1, a2, a3, a4⟩, h3, h7, h8⟩ := h
  refine ⟨h1.fr (Fi := [23]) (Fr := []) (W := fun _ => False) (rfr.si rfr.rf (by decide)) (fun _ z => z.elim) (by decide) (by decide), ⟨a1, a2, a3, a4⟩, fun i hi => ?_, fun a ha => absurd ha (Nat.not_lt_zero _), fun a ha => absurd ha (Nat.not_lt_zero _), ?_, rfr.si h7 (by decide), h8⟩
  · rw [mu_i_si, if_neg (fun z => gndl9 a2.2.1.1 z.1)]; exact h3 i hi
  · rw [mu_i_si, if_pos ⟨rfl, rfl⟩]; rfl
end Dfc
theorem rp_neO {Hb H0 : mu_H} {D : MD} {od mt bg N l d : Nat} {Φ : mu_R → Prop} (hb : mdb D) (hN : N = (D.pr 0).length) (hN2 : N < 2 ^ 30) (hL : ∀ s, s < N → nwf l (stdt D s)) (hthr : ∀ H1, ¬ acy D l → rfr [19, 20, 21, 23] [] (fun p => p = od ∨ p = mt ∨ p = bg) 1 10 H0 H1 → Φ (.inr 2, H1)) (hfin : ∀ w st ol H, dfh Hb D H0 od mt bg N w st 0 ol N H → ordz D l ol → Φ (.inl none, H)) : ∀ m_ k w st ol on H, k + m_ = N → dfh Hb D H0 od mt bg N w st 0 ol on H → dfi D l w st 0 ol on → (∀ i, i < k → w i = 2) → mu_W (mu_D (d + l + 7)) mu_m475 (71, [(2, .inl (nI k)), (1, .inl (nI N)), (0, .inr (.inr (some 169)))], [], H) Φ
  | 0, k, w, st, ol, on, H, hm_, hh, hi, h2 => by
    refine mw_go mu_g475 (k := 2) (f1 := (73, [(2, .inl (nI k)), (1, .inl (nI N)), (0, .inr (.inr (some 169)))], [.inl (nI N), .inl (nI k)], H)) (C := []) rfl trivial ?_
    refine mw_if (P := (nI k) < (nI N)) (a := 76) (b := 232) (fun _ => rfl) trivial (fun h1 => absurd h1 (by rw [show k = N by omega]; exact Int32.lt_irrefl)) (fun h1 => ?_)
    obtain ⟨q1, q2⟩ := hi.done (fun i hi2 => h2 i (by omega))
    rw [q1, ← hN] at hh
    exact mw_of (fun _ => mu_ret rfl trivial (hfin _ _ _ _ hh q2))
  | m_ + 1, k, w, st, ol, on, H, hm_, hh, hi, h2 => by
    have hk : k < N := by omega
    have k31 : k < 2 ^ 31 := by omega
    refine mw_go mu_g475 (k := 2) (f1 := (73, [(2, .inl (nI k)), (1, .inl (nI N)), (0, .inr (.inr (some 169)))], [.inl (nI N), .inl (nI k)], H)) (C := []) rfl trivial ?_
    refine mw_if (P := (nI k) < (nI N)) (a := 76) (b := 232) (fun _ => rfl) trivial (fun h1 => ?_) (fun h1 => absurd (nI_lt hk (by omega)) h1)
    refine mw_go mu_g475 (k := 2) (f1 := (80, [(2, .inl (nI k)), (1, .inl (nI N)), (0, .inr (.inr (some 169)))], [.inr (.inr (mu_r H 169 24))], H)) (C := [mu_is H (some 169) 1]) rfl (show mu_is H (some 169) 1 from hh.1.2.2.1.1) ?_
    refine mw_fr (f' := (80, [(2, .inl (nI k)), (1, .inl (nI N)), (0, .inr (.inr (some 169)))], [.inr (.inr (some mt))], H)) (by first | (rw [hh.2.1.2.1.1]; done) | (rw [hh.2.1.2.1.1]; rfl)) ?_
    refine mw_go mu_g475 (k := 2) (f1 := (82, [(2, .inl (nI k)), (1, .inl (nI N)), (0, .inr (.inr (some 169)))], [.inl (mu_i H mt (nI k).toNatClampNeg)], H)) (C := [mu_isr H (some mt) 101, vp_in (nI k) (mu_n H mt)]) rfl (show (mu_isr H (some mt) 101) ∧ (vp_in (nI k) (mu_n H mt)) from ⟨⟨rfl, Or.inl hh.2.1.2.1.2.1.2.1, hh.2.1.2.1.2.2.2.1⟩, (vp_in_nI (Nat.lt_of_lt_of_le hk hh.2.1.2.1.2.2.2.2.1) hh.2.1.2.1.2.2.2.2.2)⟩) ?_
    refine mw_fr (f' := (82, [(2, .inl (nI k)), (1, .inl (nI N)), (0, .inr (.inr (some 169)))], [.inl (w k)], H)) (by first | (rw [(show mu_i H mt (nI k).toNatClampNeg = (w k) by rw [nI_clamp k31]; exact hh.2.2.1 k hk)]; done) | (rw [(show mu_i H mt (nI k).toNatClampNeg = (w k) by rw [nI_clamp k31]; exact hh.2.2.1 k hk)]; rfl)) ?_
    refine mw_go mu_g475 (k := 1) (f1 := (83, [(2, .inl (nI k)), (1, .inl (nI N)), (0, .inr (.inr (some 169)))], [.inl (2 : Int32), .inl (w k)], H)) (C := []) rfl trivial ?_
    refine mw_if (P := (w k) = (2 : Int32)) (a := 86) (b := 89) (fun _ => rfl) trivial (fun h3 => ?_) (fun h3 => ?_)
    · -- 86
      refine mw_go mu_g475 (k := 3) (f1 := (71, [(2, .inl ((nI k) + 1)), (1, .inl (nI N)), (0, .inr (.inr (some 169)))], [], H)) (C := []) rfl trivial ?_
      refine mw_sub (L' := [(2, .inl (nI (k + 1))), (1, .inl (nI N)), (0, .inr (.inr (some 169)))]) (by intro x hx; simp only [List.mem_cons, List.not_mem_nil, or_false] at hx ⊢; rcases hx with rfl | rfl | rfl <;> first | (simp [nI_add, show (1 : Int32) = nI 1 from rfl]; done) | simp [nI]) ?_
      exact rp_neO hb hN hN2 hL hthr hfin m_ (k + 1) _ _ _ _ _ (by omega) hh hi (fun i hi2 => by
          by_cases e : i = k
          · rw [e]; exact h3
          · exact h2 i (by omega))
    · -- 89
      have w0 : w k = 0 := by
        rcases hi.1 k (by omega) with e | e | e
        · exact e
        · obtain ⟨a, ha, _⟩ := hi.2.2.2.1 k (by omega) e
          exact absurd ha (Nat.not_lt_zero _)
        · exact absurd e h3
      have N0 : 0 < N := by omega
      refine mw_go mu_g475 (k := 4) (f1 := (95, [(3, .inl (0 : Int32)), (2, .inl (nI k)), (1, .inl (nI N)), (0, .inr (.inr (some 169)))], [.inr (.inr (mu_r H 169 25))], H)) (C := [mu_is H (some 169) 1]) rfl (show mu_is H (some 169) 1 from hh.1.2.2.1.1) ?_
      refine mw_fr (f' := (95, [(3, .inl (0 : Int32)), (2, .inl (nI k)), (1, .inl (nI N)), (0, .inr (.inr (some 169)))], [.inr (.inr (some bg))], H)) (by first | (rw [hh.2.1.2.2.1.1]; done) | (rw [hh.2.1.2.2.1.1]; rfl)) ?_
      refine mw_go mu_g475 (k := 4) (f1 := (101, [(3, .inl ((0 : Int32) + 1)), (2, .inl (nI k)), (1, .inl (nI N)), (0, .inr (.inr (some 169)))], [], (mu_si H bg (0 : Int32).toNatClampNeg (nI k)))) (C := [mu_is H (some bg) 100, vp_in (0 : Int32) (mu_n H bg)]) rfl (show (mu_is H (some bg) 100) ∧ (vp_in (0 : Int32) (mu_n H bg)) from ⟨⟨rfl, hh.2.1.2.2.1.2.1.2.1, hh.2.1.2.2.1.2.2.2.1⟩, (vp_in_nI (n := 0) (Nat.lt_of_lt_of_le N0 hh.2.1.2.2.1.2.2.2.2.1) hh.2.1.2.2.1.2.2.2.2.2)⟩) ?_
      refine mw_fr (f' := (101, [(3, .inl ((0 : Int32) + 1)), (2, .inl (nI k)), (1, .inl (nI N)), (0, .inr (.inr (some 169)))], [], (mu_si H bg 0 (nI k)))) (by rfl) ?_
      have hd1 : dfh Hb D H0 od mt bg N w (fup st 0 k) 1 ol on (mu_si H bg 0 (nI k)) := hh.wb
      obtain ⟨K1, eK1⟩ : ∃ K, K = (mu_si H bg 0 (nI k)) := ⟨_, rfl⟩
      rw [← eK1] at hd1 ⊢
      clear eK1
      refine mw_go mu_g475 (k := 2) (f1 := (105, [(3, .inl ((0 : Int32) + 1)), (2, .inl (nI k)), (1, .inl (nI N)), (0, .inr (.inr (some 169)))], [.inr (.inr (mu_r K1 169 24))], K1)) (C := [mu_is K1 (some 169) 1]) rfl (show mu_is K1 (some 169) 1 from hd1.1.2.2.1.1) ?_
      refine mw_fr (f' := (105, [(3, .inl ((0 : Int32) + 1)), (2, .inl (nI k)), (1, .inl (nI N)), (0, .inr (.inr (some 169)))], [.inr (.inr (some mt))], K1)) (by first | (rw [hd1.2.1.2.1.1]; done) | (rw [hd1.2.1.2.1.1]; rfl)) ?_
      refine mw_go mu_g475 (k := 3) (f1 := (108, [(3, .inl ((0 : Int32) + 1)), (2, .inl (nI k)), (1, .inl (nI N)), (0, .inr (.inr (some 169)))], [], (mu_si K1 mt (nI k).toNatClampNeg (vp_nar .byte (1 : Int32))))) (C := [mu_is K1 (some mt) 101, vp_in (nI k) (mu_n K1 mt)]) rfl (show (mu_is K1 (some mt) 101) ∧ (vp_in (nI k) (mu_n K1 mt)) from ⟨⟨rfl, hd1.2.1.2.1.2.1.2.1, hd1.2.1.2.1.2.2.2.1⟩, (vp_in_nI (Nat.lt_of_lt_of_le hk hd1.2.1.2.1.2.2.2.2.1) hd1.2.1.2.1.2.2.2.2.2)⟩) ?_
      refine mw_fr (f' := (108, [(3, .inl ((0 : Int32) + 1)), (2, .inl (nI k)), (1, .inl (nI N)), (0, .inr (.inr (some 169)))], [], (mu_si K1 mt k 1))) (by rw [nI_clamp k31]; rfl) ?_
      have hd2 : dfh Hb D H0 od mt bg N (fup w k 1) (fup st 0 k) 1 ol on (mu_si K1 mt k 1) := hd1.wm
      obtain ⟨K2, eK2⟩ : ∃ K, K = (mu_si K1 mt k 1) := ⟨_, rfl⟩
      rw [← eK2] at hd2 ⊢
      clear eK2
      obtain ⟨q1, q2, q3⟩ := hi.push (s := k) (by omega) w0 (fun z => absurd z (Nat.lt_irrefl _))
      refine mw_sub (L' := [(3, .inl (nI 1)), (2, .inl (nI k)), (1, .inl (nI N)), (0, .inr (.inr (some 169)))]) (by intro x hx; simp only [List.mem_cons, List.not_mem_nil, or_false] at hx ⊢; rcases hx with rfl | rfl | rfl | rfl <;> simp [nI]) ?_
      refine rp_neW hb hN hN2 hL hk hthr (fun w2 st2 ol2 on2 H2 hh2 hi2 g1 g2 => ?_) (2 * cntv (fup w k 1) 0 (D.pr 0).length + 1 + 1) _ _ _ _ _ _ (Nat.lt_succ_self _) hd2 q1 (fun i hi2 => by rw [fup_ne (by omega)]; exact h2 i hi2) (by rw [fup_at]; decide)
      refine mw_go mu_g475 (k := 2) (f1 := (71, [(2, .inl ((nI k) + 1)), (1, .inl (nI N)), (0, .inr (.inr (some 169)))], [], H2)) (C := []) rfl trivial ?_
      refine mw_sub (L' := [(2, .inl (nI (k + 1))), (1, .inl (nI N)), (0, .inr (.inr (some 169)))]) (by intro x hx; simp only [List.mem_cons, List.not_mem_nil, or_false] at hx ⊢; rcases hx with rfl | rfl | rfl <;> first | (simp [nI_add, show (1 : Int32) = nI 1 from rfl]; done) | simp [nI]) ?_
      exact rp_neO hb hN hN2 hL hthr hfin m_ (k + 1) _ _ _ _ _ (by omega) hh2 hi2 (fun i hi3 => by
          by_cases e : i = k
          · rw [e]; exact g2
          · exact g1 i (by omega))
theorem rp_neC {Hb H0 : mu_H} {D : MD} {od mt bg N l d : Nat} {Φ : mu_R → Prop} (hb : mdb D) (hN : N = (D.pr 0).length) (hN2 : N < 2 ^ 30) (hL : ∀ s, s < N → nwf l (stdt D s)) (hthr : ∀ H1, ¬ acy D l → rfr [19, 20, 21, 23] [] (fun p => p = od ∨ p = mt ∨ p = bg) 1 10 H0 H1 → Φ (.inr 2, H1)) (hfin : ∀ w st ol H, dfh Hb D H0 od mt bg N w st 0 ol N H → ordz D l ol → Φ (.inl none, H)) : ∀ m_ k H, k + m_ = N → dfc Hb D H0 od mt bg N k H → mu_W (mu_D (d + l + 7)) mu_m475 (46, [(2, .inl (nI k)), (1, .inl (nI N)), (0, .inr (.inr (some 169)))], [], H) Φ
  | 0, k, H, hm_, hc => by
    refine mw_go mu_g475 (k := 2) (f1 := (48, [(2, .inl (nI k)), (1, .inl (nI N)), (0, .inr (.inr (some 169)))], [.inl (nI N), .inl (nI k)], H)) (C := []) rfl trivial ?_
    refine mw_if (P := (nI k) < (nI N)) (a := 51) (b := 64) (fun _ => rfl) trivial (fun h1 => absurd h1 (by rw [show k = N by omega]; exact Int32.lt_irrefl)) (fun h1 => ?_)
    refine mw_go mu_g475 (k := 5) (f1 := (71, [(2, .inl (0 : Int32)), (1, .inl (nI N)), (0, .inr (.inr (some 169)))], [], (mu_si H 169 23 (0 : Int32)))) (C := [mu_is H (some 169) 1]) rfl (show mu_is H (some 169) 1 from hc.1.2.2.1.1) ?_
    refine mw_sub (L' := [(2, .inl (nI 0)), (1, .inl (nI N)), (0, .inr (.inr (some 169)))]) (by intro x hx; simp only [List.mem_cons, List.not_mem_nil, or_false] at hx ⊢; rcases hx with rfl | rfl | rfl <;> first | (simp [nI_add, show (1 : Int32) = nI 1 from rfl]; done) | simp [nI]) ?_
    rw [show k = N by omega] at hc
    exact rp_neO hb hN hN2 hL hthr hfin N 0 (fun _ => 0) (fun _ => 0) (fun _ => 0) 0 _ (Nat.zero_add _) hc.to (dfi_0 (fun _ _ => rfl)) (fun i hi => absurd hi (Nat.not_lt_zero _))
  | m_ + 1, k, H, hm_, hc => by
    have hk : k < N := by omega
    refine mw_go mu_g475 (k := 2) (f1 := (48, [(2, .inl (nI k)), (1, .inl (nI N)), (0, .inr (.inr (some 169)))], [.inl (nI N), .inl (nI k)], H)) (C := []) rfl trivial ?_
    refine mw_if (P := (nI k) < (nI N)) (a := 51) (b := 64) (fun _ => rfl) trivial (fun h1 => ?_) (fun h1 => absurd (nI_lt hk (by omega)) h1)
    refine mw_go mu_g475 (k := 2) (f1 := (55, [(2, .inl (nI k)), (1, .inl (nI N)), (0, .inr (.inr (some 169)))], [.inr (.inr (mu_r H 169 24))], H)) (C := [mu_is H (some 169) 1]) rfl (show mu_is H (some 169) 1 from hc.1.2.2.1.1) ?_
    refine mw_fr (f' := (55, [(2, .inl (nI k)), (1, .inl (nI N)), (0, .inr (.inr (some 169)))], [.inr (.inr (some mt))], H)) (by first | (rw [hc.2.1.2.1.1]; done) | (rw [hc.2.1.2.1.1]; rfl)) ?_
    refine mw_go mu_g475 (k := 3) (f1 := (58, [(2, .inl (nI k)), (1, .inl (nI N)), (0, .inr (.inr (some 169)))], [], (mu_si H mt (nI k).toNatClampNeg (vp_nar .byte (0 : Int32))))) (C := [mu_is H (some mt) 101, vp_in (nI k) (mu_n H mt)]) rfl (show (mu_is H (some mt) 101) ∧ (vp_in (nI k) (mu_n H mt)) from ⟨⟨rfl, hc.2.1.2.1.2.1.2.1, hc.2.1.2.1.2.2.2.1⟩, (vp_in_nI (Nat.lt_of_lt_of_le hk hc.2.1.2.1.2.2.2.2.1) hc.2.1.2.1.2.2.2.2.2)⟩) ?_
    refine mw_fr (f' := (58, [(2, .inl (nI k)), (1, .inl (nI N)), (0, .inr (.inr (some 169)))], [], (mu_si H mt k 0))) (by rw [nI_clamp (show k < 2 ^ 31 by omega)]; rfl) ?_
    refine mw_go mu_g475 (k := 2) (f1 := (46, [(2, .inl ((nI k) + 1)), (1, .inl (nI N)), (0, .inr (.inr (some 169)))], [], (mu_si H mt k 0))) (C := []) rfl trivial ?_
    refine mw_sub (L' := [(2, .inl (nI (k + 1))), (1, .inl (nI N)), (0, .inr (.inr (some 169)))]) (by intro x hx; simp only [List.mem_cons, List.not_mem_nil, or_false] at hx ⊢; rcases hx with rfl | rfl | rfl <;> first | (simp [nI_add, show (1 : Int32) = nI 1 from rfl]; done) | simp [nI]) ?_
    exact rp_neC hb hN hN2 hL hthr hfin m_ (k + 1) _ (by omega) hc.wm
