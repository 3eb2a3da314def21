/-! THE LEXER: the tape is scanned -/
section LexScan2
variable {H Hs H1 : mu_H} {t n k : Nat}
/-- the scan stands behind k TOKENS; e words more may be there -/
def sc (t n : Nat) (H Hs : mu_H) (k e : Nat) : Prop := ls t n Hs ∧ lk ls_S H Hs ∧ (∀ j, j ≠ 7 → j ≠ 0 → mu_r Hs 81 j = mu_r H 81 j) ∧ mu_n Hs (lt7 Hs) ≤ max (mu_n H (lt7 H)) (max 405 (3 * lu Hs)) ∧ gi_cap Hs 86 ≤ max (gi_cap H 86) (max 1084 (2 * (gi_sz Hs 86 * 4) + 4)) ∧ gi_cap Hs 82 ≤ max (gi_cap H 82) (2 * (gi_sz Hs 82 * 3) + 3) ∧ gi_sz Hs 82 = k ∧ k ≤ la Hs + 1 ∧ lu Hs ≤ 135 + la Hs ∧ gi_sz Hs 86 ≤ 135 + k + e
theorem sc.step {e e' : Nat} (h : sc t n H Hs k e) (h1 : ls t n H1) (h2 : sf Hs H1) (h3 : la Hs ≤ la H1) (h4 : lu H1 + la Hs ≤ lu Hs + la H1) (h5 : gi_sz H1 86 ≤ gi_sz Hs 86 + e') : sc t n H H1 k (e + e') := by
  obtain ⟨a, b, c, f, g, i, j, l, m, o⟩ := h
  obtain ⟨q1, q2, ⟨q3, q4⟩, q5, q6, q7, q8⟩ := h2
  have z82 : gi_sz H1 82 = gi_sz Hs 82 := by unfold gi_sz; rw [q3.i]
  have c82 : gi_cap H1 82 = gi_cap Hs 82 := by unfold gi_cap; rw [q3.r]; exact q4.2.1
  exact ⟨h1, b.trans q1, fun j h7 h0 => (q2 j h7).trans (c j h7 h0), by omega, by omega, by omega, by omega, by omega, by omega, by omega⟩
theorem sc.put {e : Nat} {a1 a2 a3 a4 : Int32} (h : sc t n H Hs k e) (he : e ≤ 1) (hk : k ≤ la Hs) (hg : gi H1) (hq : gq Hs H1 82 3 (rw_col a1 a2 a3 a4)) : sc t n H H1 (k + 1) 0 ∧ cel H1 82 (k * 3) = a1 ∧ la H1 = la Hs ∧ mu_i H1 81 3 = mu_i Hs 81 3 := by
  obtain ⟨⟨a1', a2', a3', a4', a5', a6', a7', a8'⟩, b, c, f, g, i, j, l, m, o⟩ := h
  obtain ⟨q1, q2, q3, q4, q5, q6⟩ := hq
  have s81 := q1.obj (p := 81) (k := 4) rfl rfl
  have s86 := q1.obj (p := 86) (k := 10) rfl rfl
  have e7 : lt7 H1 = lt7 Hs := by unfold lt7; rw [s81.r]
  have eu : lu H1 = lu Hs := by unfold lu; rw [s81.i]
  have el : la H1 = la Hs := by unfold la; rw [s81.i]
  have en7 := (q1.2.1 _ (lw.g7 a1'.1).2.1).2
  have en7' : mu_n H1 (lt7 Hs) = mu_n Hs (lt7 Hs) := en7
  have z86 := q3 86 (by decide) 4 rfl
  have q4' := q4.1
  have hls : ls t n H1 := ⟨a1'.of hg (s81.i 8) (s81.r 7) en7 z86.1 (fun i => by unfold cel; rw [s86.r]; exact (q1.2.2.2.1 86 1 rfl rfl).i i), by rw [s81.r]; exact a2', q1.is a3', by rw [e7]; exact a4', by rw [(q1.2.1 t a3'.2.1).2]; exact a5', by rw [s81.i]; exact a6', by rw [s81.i, el]; exact a7', by rw [el]; exact a8'⟩
  refine ⟨⟨hls, b.trans (lk.of (q1.mono (fun p hp => decide_eq_true (Or.inr (Or.inl (Nat.eq_of_beq_eq_true hp))))) (s81.r 7)), fun j h7 h0 => (s81.r j).trans (c j h7 h0), by rw [e7, en7', eu]; exact f, by rw [z86.1, z86.2]; exact g, by omega, by omega, by omega, by omega, by omega⟩, ?_, el, s81.i 3⟩
  have := q6 0 (by decide)
  rw [j] at this
  exact this
end LexScan2
section LexScan3
variable {H : mu_H} {d t n : Nat}
/-- PathProver$Lexer.scan([BI)V -/
abbrev mu_m38 : ev_M := (5, none, [], ev_b38)
theorem mu_g38 : mu_good mu_m38 := mu_goodk ev_k38
theorem ls_scan (hg : gi H) (h0 : mu_r H 0 0 = some t) (hn : n ≤ mu_n H t) (hn2 : n ≤ 1000000) : mu_TV (mu_D (d + 8)) 38 [.inr (.inr (some 81)), .inr (.inr (some t)), .inl (nI n)] H (fun H1 => gi H1 ∧ lk ls_S H H1 ∧ (mu_r H1 81 0 = some t ∧ ∀ j, j ≠ 7 → j ≠ 0 → mu_r H1 81 j = mu_r H 81 j) ∧ (1 ≤ gi_sz H1 82 ∧ gi_sz H1 82 ≤ n + 1 ∧ ¬ cel H1 82 ((gi_sz H1 82 - 1) * 3) < 114) ∧ mu_n H1 (lt7 H1) ≤ max (mu_n H (lt7 H)) (3 * (135 + n)) ∧ gi_cap H1 86 ≤ max (gi_cap H 86) (8 * (136 + n) + 4) ∧ gi_cap H1 82 ≤ max (gi_cap H 82) (6 * (n + 1) + 3)) := by
  have ht : mu_is H (some t) 101 := by rw [← h0]; exact hg.2.2.2.2.2.2.2.1.1
  have ht7 : t ≠ lt7 H := fun e => by
    have h7 := (lw.g7 hg).1
    have h8 := hg.2.2.2.2.2.2.2.1.2.2.1
    rw [h0, h7] at h8
    exact h8 (by rw [e]; rfl)
  have htn : mu_n H t ≤ 16777216 := by
    have := (hg.2.2.2.2.2.2.2.2.1 (0, 0) List.mem_cons_self).2
    have e : gi_len H (0, 0) = mu_n H t := by show mu_n H (mu_p (mu_r H 0 0)) = _; rw [h0]; rfl
    omega
  have gA : gi (mu_sr H 81 0 (some t)) := hg.sr rfl rfl (by decide)
  have kA : gk ls_S H (mu_sr H 81 0 (some t)) := gk.sr hg (k := 4) rfl rfl (by decide) rfl (fun q hq => by cases hq; exact Or.inr ⟨0, 0, rfl, h0⟩)
  have g0 : gi (mu_si (mu_si (mu_sr H 81 0 (some t)) 81 1 (nI n)) 81 2 (0 : Int32)) := (gA.si (k := 4) rfl rfl).si (k := 4) rfl rfl
  have k0 : gk ls_S H (mu_si (mu_si (mu_sr H 81 0 (some t)) 81 1 (nI n)) 81 2 (0 : Int32)) := (kA.trans (gk.si gA (k := 4) rfl rfl)).trans (gk.si (gA.si (k := 4) rfl rfl) (k := 4) rfl rfl)
  have g1 : gi (mu_si (mu_si (mu_si (mu_sr H 81 0 (some t)) 81 1 (nI n)) 81 2 (0 : Int32)) 82 2 0) := (g0.size (r := 82) (W := 3) (k := 0) rfl (Nat.zero_le _)).1
  have k1 : gk ls_S H (mu_si (mu_si (mu_si (mu_sr H 81 0 (some t)) 81 1 (nI n)) 81 2 (0 : Int32)) 82 2 0) := k0.trans (gk.si g0 (k := 10) rfl rfl)
  refine mu_meth (M := mu_m38) rfl rfl ?_
  refine mw_ht (mu_fn_of (show [0, 1, 2].Nodup by decide)) ?_
  refine mw_go mu_g38 (k := 11) (f1 := (19, [(0, .inr (.inr (some 81))), (1, .inr (.inr (some t))), (2, .inl (nI n))], [.inr (.inr (mu_r (mu_si (mu_si (mu_sr H 81 0 (some t)) 81 1 (nI n)) 81 2 (0 : Int32)) 81 5))], (mu_si (mu_si (mu_sr H 81 0 (some t)) 81 1 (nI n)) 81 2 (0 : Int32)))) (C := [mu_is H (some 81) 4, mu_is (mu_sr H 81 0 (some t)) (some 81) 4, mu_is (mu_si (mu_sr H 81 0 (some t)) 81 1 (nI n)) (some 81) 4, mu_is (mu_si (mu_si (mu_sr H 81 0 (some t)) 81 1 (nI n)) 81 2 (0 : Int32)) (some 81) 4]) rfl ⟨hg.is rfl, gA.is rfl, (gA.si (k := 4) (p := 81) (j := 1) (x := nI n) rfl rfl).is rfl, g0.is rfl⟩ ?_
  rw [g0.r (p := 81) (j := 5) (q := 82) rfl]
  refine mw_cVe (fun _ => rfl) (show mu_is (mu_si (mu_si (mu_sr H 81 0 (some t)) 81 1 (nI n)) 81 2 (0 : Int32)) (some 82) 10 from g0.is rfl) (rw_clear_ok (d := d + 6) (g0.w (r := 82) (W := 3) rfl)) ?_
  refine mw_go mu_g38 (k := 1) (f1 := (23, [(0, .inr (.inr (some 81))), (1, .inr (.inr (some t))), (2, .inl (nI n))], [.inr (.inr (some 81))], mu_si (mu_si (mu_si (mu_sr H 81 0 (some t)) 81 1 (nI n)) 81 2 (0 : Int32)) 82 2 0)) (C := []) rfl trivial ?_
  have e0 : mu_r (mu_si (mu_si (mu_si (mu_sr H 81 0 (some t)) 81 1 (nI n)) 81 2 (0 : Int32)) 82 2 0) 81 0 = some t := rfl
  have e1 : mu_i (mu_si (mu_si (mu_si (mu_sr H 81 0 (some t)) 81 1 (nI n)) 81 2 (0 : Int32)) 82 2 0) 81 1 = nI n := rfl
  have e2 : mu_i (mu_si (mu_si (mu_si (mu_sr H 81 0 (some t)) 81 1 (nI n)) 81 2 (0 : Int32)) 82 2 0) 81 2 = 0 := rfl
  have e7 : lt7 (mu_si (mu_si (mu_si (mu_sr H 81 0 (some t)) 81 1 (nI n)) 81 2 (0 : Int32)) 82 2 0) = lt7 H := rfl
  have n7 : mu_n (mu_si (mu_si (mu_si (mu_sr H 81 0 (some t)) 81 1 (nI n)) 81 2 (0 : Int32)) 82 2 0) (lt7 (mu_si (mu_si (mu_si (mu_sr H 81 0 (some t)) 81 1 (nI n)) 81 2 (0 : Int32)) 82 2 0)) = mu_n H (lt7 H) := rfl
  have c86 : gi_cap (mu_si (mu_si (mu_si (mu_sr H 81 0 (some t)) 81 1 (nI n)) 81 2 (0 : Int32)) 82 2 0) 86 = gi_cap H 86 := rfl
  have c82 : gi_cap (mu_si (mu_si (mu_si (mu_sr H 81 0 (some t)) 81 1 (nI n)) 81 2 (0 : Int32)) 82 2 0) 82 = gi_cap H 82 := rfl
  have z82 : gi_sz (mu_si (mu_si (mu_si (mu_sr H 81 0 (some t)) 81 1 (nI n)) 81 2 (0 : Int32)) 82 2 0) 82 = 0 := rfl
  have rr : ∀ j, j ≠ 0 → mu_r (mu_si (mu_si (mu_si (mu_sr H 81 0 (some t)) 81 1 (nI n)) 81 2 (0 : Int32)) 82 2 0) 81 j = mu_r H 81 j := fun j hj => by show mu_r (mu_sr H 81 0 (some t)) 81 j = _; rw [mu_r_sr, if_neg (fun z => hj z.2)]
  have t1 : mu_is (mu_si (mu_si (mu_si (mu_sr H 81 0 (some t)) 81 1 (nI n)) 81 2 (0 : Int32)) 82 2 0) (some t) 101 := k1.is ht
  have tn1 : mu_n (mu_si (mu_si (mu_si (mu_sr H 81 0 (some t)) 81 1 (nI n)) 81 2 (0 : Int32)) 82 2 0) t = mu_n H t := rfl
  generalize mu_si (mu_si (mu_si (mu_sr H 81 0 (some t)) 81 1 (nI n)) 81 2 (0 : Int32)) 82 2 0 = G1 at g1 k1 e0 e1 e2 e7 n7 c86 c82 z82 rr t1 tn1 ⊢
  refine mw_cV (fun _ => rfl) (show mu_is G1 (some 81) 4 from g1.is rfl) (ls_forget (d := d + 1) g1) (fun G2 q => ?_)
  obtain ⟨f1, f2, f3, f4, ⟨f5, f6⟩, f7, f8, f9, f10⟩ := q
  have hla2 : la G2 = 0 := by unfold la; rw [f4 2 (by decide) (by decide), e2]; rfl
  have hls2 : ls t n G2 := by
    refine ⟨f1, (f3 0 (by decide)).trans e0, f2.is t1, ?_, by rw [(f2.2.1 t t1.2.1).2, tn1]; exact ⟨hn, htn⟩, (f4 1 (by decide) (by decide)).trans e1, ?_, by omega⟩
    · rcases f2.2.2.2.2.2.2.2.2 with z | z
      · rw [z, e7]; exact ht7
      · intro e
        have h9 : t < mu_z G1 := t1.2.1
        omega
    · rw [f4 2 (by decide) (by decide), e2, hla2]; rfl
  have z2 : gi_sz G2 82 = 0 := by unfold gi_sz; rw [f5.i]; exact z82
  have c2 : gi_cap G2 82 = gi_cap H 82 := by unfold gi_cap; rw [f5.r, f6.2.1]; exact c82
  have sc2 : sc t n H G2 0 0 := ⟨hls2, (lk.of k1 (rr 7 (by decide))).trans f2, fun j h7 h0 => (f3 j h7).trans (rr j h0), by omega, by omega, by omega, z2, by omega, by omega, by omega⟩
  have lo3 : lo [3] G2 (mu_si G2 81 3 (112 : Int32)) := lo.si (lo.refl [3] G2) (by decide)
  obtain ⟨hls3, la3⟩ := hls2.lo lo3 (by decide) (by decide) (b := la G2) hls2.2.2.2.2.2.2.1 hls2.2.2.2.2.2.2.2
  obtain ⟨sf3, u3, zz3, y3⟩ := lo.tosf hls2.1.1 lo3 (by decide)
  have sc3 : sc t n H (mu_si G2 81 3 (112 : Int32)) 0 0 := sc2.step (e' := 0) hls3 sf3 (by omega) (by omega) (by omega)
  have k3 : mu_i (mu_si G2 81 3 (112 : Int32)) 81 3 = 112 := rfl
  refine mw_go mu_g38 (k := 5) (f1 := (34, [(3, .inl (0 : Int32)), (0, .inr (.inr (some 81))), (1, .inr (.inr (some t))), (2, .inl (nI n))], [], mu_si G2 81 3 (112 : Int32))) (C := [mu_is G2 (some 81) 4]) rfl (show mu_is G2 (some 81) 4 from f1.1.is rfl) ?_
  generalize mu_si G2 81 3 (112 : Int32) = G3 at sc3 k3 ⊢
  refine mw_sub (L' := [(3, .inl (nI 0)), (0, .inr (.inr (some 81))), (1, .inr (.inr (some t))), (2, .inl (nI n))]) (by simp [show nI 0 = 0 from rfl]) ?_
  refine mw_down (α := Nat × mu_H) (fun zs => (34, [(3, .inl (nI zs.1)), (0, .inr (.inr (some 81))), (1, .inr (.inr (some t))), (2, .inl (nI n))], [], zs.2)) (fun zs => n + 2 - zs.1) (fun zs => sc t n H zs.2 zs.1 0 ∧ ((zs.1 = 0 ∧ mu_i zs.2 81 3 = 112) ∨ (1 ≤ zs.1 ∧ cel zs.2 82 ((zs.1 - 1) * 3) = mu_i zs.2 81 3)) ∧ (mu_i zs.2 81 3 = 114 ∨ mu_i zs.2 81 3 = 115 ∨ zs.1 ≤ la zs.2)) (fun zs hz ih => ?_) (0, G3) ⟨sc3, Or.inl ⟨rfl, k3⟩, Or.inr (Or.inr (Nat.zero_le _))⟩
  obtain ⟨k, Hs⟩ := zs
  obtain ⟨hsc, hI5, hI6⟩ := hz
  have hsc : sc t n H Hs k 0 := hsc
  have hI5 : (k = 0 ∧ mu_i Hs 81 3 = 112) ∨ (1 ≤ k ∧ cel Hs 82 ((k - 1) * 3) = mu_i Hs 81 3) := hI5
  have hI6 : mu_i Hs 81 3 = 114 ∨ mu_i Hs 81 3 = 115 ∨ k ≤ la Hs := hI6
  have hls : ls t n Hs := hsc.1
  have hlan := hls.2.2.2.2.2.2.2
  have hk82 := hsc.2.2.2.2.2.2.1
  have hkla := hsc.2.2.2.2.2.2.2.1
  show mu_W _ _ (34, [(3, .inl (nI k)), (0, .inr (.inr (some 81))), (1, .inr (.inr (some t))), (2, .inl (nI n))], [], Hs) _
  refine mw_go mu_g38 (k := 2) (f1 := (36, [(3, .inl (nI k)), (0, .inr (.inr (some 81))), (1, .inr (.inr (some t))), (2, .inl (nI n))], [.inl (nI n), .inl (nI k)], Hs)) (C := []) rfl trivial ?_
  refine mw_if (P := (nI n) < (nI k)) (a := 165) (b := 39) (fun _ => rfl) trivial (fun h1 => ?_) (fun h1 => ?_)
  · -- 165: (nI n) < (nI k)
    have hnk : n < k := (nI_ltI (by omega) (by omega)).mp h1
    have hend : mu_i Hs 81 3 = 114 ∨ mu_i Hs 81 3 = 115 := by rcases hI6 with z | z | z; exact Or.inl z; exact Or.inr z; omega
    obtain ⟨s1, s2, s3, s4, s5, s6, s7, s8, s9, s10⟩ := hsc
    have h1k : 1 ≤ k ∧ cel Hs 82 ((k - 1) * 3) = mu_i Hs 81 3 := by
      rcases hI5 with ⟨-, z⟩ | z
      · exfalso
        rw [z] at hend
        exact absurd hend (by decide)
      · exact z
    have hke : ¬ cel Hs 82 ((gi_sz Hs 82 - 1) * 3) < 114 := by
      rw [s7, h1k.2]
      rcases hend with z | z <;> rw [z] <;> decide
    exact mw_of (fun _ => mu_ret rfl trivial ⟨Hs, rfl, s1.1.1, s2, ⟨s1.2.1, s3⟩, ⟨by omega, by omega, hke⟩, by omega, by omega, by omega⟩)
  · -- 39: not (nI n) < (nI k)
    have hnk : k ≤ n := Nat.le_of_not_lt (fun z => h1 (nI_lt z (by omega)))
    refine mw_go mu_g38 (k := 3) (f1 := (45, [(3, .inl (nI k)), (0, .inr (.inr (some 81))), (1, .inr (.inr (some t))), (2, .inl (nI n))], [.inl (114 : Int32), .inl (mu_i Hs 81 3)], Hs)) (C := [mu_is Hs (some 81) 4]) rfl (show mu_is Hs (some 81) 4 from hls.1.1.is rfl) ?_
    refine mw_if (P := (mu_i Hs 81 3) = (114 : Int32)) (a := 165) (b := 48) (fun _ => rfl) trivial (fun h2 => ?_) (fun h2 => ?_)
    · -- 165: (mu_i Hs 81 3) = (114 : Int32)
      have hend : mu_i Hs 81 3 = 114 ∨ mu_i Hs 81 3 = 115 := Or.inl h2
      obtain ⟨s1, s2, s3, s4, s5, s6, s7, s8, s9, s10⟩ := hsc
      have h1k : 1 ≤ k ∧ cel Hs 82 ((k - 1) * 3) = mu_i Hs 81 3 := by
        rcases hI5 with ⟨-, z⟩ | z
        · exfalso
          rw [z] at hend
          exact absurd hend (by decide)
        · exact z
      have hke : ¬ cel Hs 82 ((gi_sz Hs 82 - 1) * 3) < 114 := by
        rw [s7, h1k.2]
        rcases hend with z | z <;> rw [z] <;> decide
      exact mw_of (fun _ => mu_ret rfl trivial ⟨Hs, rfl, s1.1.1, s2, ⟨s1.2.1, s3⟩, ⟨by omega, by omega, hke⟩, by omega, by omega, by omega⟩)
    · -- 48: not (mu_i Hs 81 3) = (114 : Int32)
      refine mw_go mu_g38 (k := 3) (f1 := (54, [(3, .inl (nI k)), (0, .inr (.inr (some 81))), (1, .inr (.inr (some t))), (2, .inl (nI n))], [.inl (115 : Int32), .inl (mu_i Hs 81 3)], Hs)) (C := [mu_is Hs (some 81) 4]) rfl (show mu_is Hs (some 81) 4 from hls.1.1.is rfl) ?_
      refine mw_if (P := (mu_i Hs 81 3) = (115 : Int32)) (a := 165) (b := 57) (fun _ => rfl) trivial (fun h3 => ?_) (fun h3 => ?_)
      · -- 165: (mu_i Hs 81 3) = (115 : Int32)
        have hend : mu_i Hs 81 3 = 114 ∨ mu_i Hs 81 3 = 115 := Or.inr h3
        obtain ⟨s1, s2, s3, s4, s5, s6, s7, s8, s9, s10⟩ := hsc
        have h1k : 1 ≤ k ∧ cel Hs 82 ((k - 1) * 3) = mu_i Hs 81 3 := by
          rcases hI5 with ⟨-, z⟩ | z
          · exfalso
            rw [z] at hend
            exact absurd hend (by decide)
          · exact z
        have hke : ¬ cel Hs 82 ((gi_sz Hs 82 - 1) * 3) < 114 := by
          rw [s7, h1k.2]
          rcases hend with z | z <;> rw [z] <;> decide
        exact mw_of (fun _ => mu_ret rfl trivial ⟨Hs, rfl, s1.1.1, s2, ⟨s1.2.1, s3⟩, ⟨by omega, by omega, hke⟩, by omega, by omega, by omega⟩)
      · -- 57: not (mu_i Hs 81 3) = (115 : Int32)
        have hkl : k ≤ la Hs := by rcases hI6 with z | z | z; exact absurd z h2; exact absurd z h3; exact z
        refine mw_go mu_g38 (k := 1) (f1 := (58, [(3, .inl (nI k)), (0, .inr (.inr (some 81))), (1, .inr (.inr (some t))), (2, .inl (nI n))], [.inr (.inr (some 81))], Hs)) (C := []) rfl trivial ?_
        refine mw_cV (fun _ => rfl) (show mu_is Hs (some 81) 4 from hls.1.1.is rfl) (ls_skip (d := (d + 6)) hls) (fun H4 q4 => ?_)
        obtain ⟨hs1, ho1, hla1⟩ := q4
        obtain ⟨f1, u1, z1, y1⟩ := lo.tosf hls.1.1 ho1 (by decide)
        have hI1 := ho1
        refine mw_go mu_g38 (k := 2) (f1 := (65, [(3, .inl (nI k)), (0, .inr (.inr (some 81))), (1, .inr (.inr (some t))), (2, .inl (nI n))], [.inl (mu_i H4 81 2)], H4)) (C := [mu_is H4 (some 81) 4]) rfl (show mu_is H4 (some 81) 4 from hs1.1.1.is rfl) ?_
        rw [hs1.2.2.2.2.2.2.1]
        refine mw_go mu_g38 (k := 4) (f1 := (72, [(4, .inl (nI (la H4))), (3, .inl (nI k)), (0, .inr (.inr (some 81))), (1, .inr (.inr (some t))), (2, .inl (nI n))], [], (mu_si H4 81 4 (0 : Int32)))) (C := [mu_is H4 (some 81) 4]) rfl (show mu_is H4 (some 81) 4 from hs1.1.1.is rfl) ?_
        have lo4 : lo [4] H4 (mu_si H4 81 4 (0 : Int32)) := lo.si (lo.refl [4] H4) (by decide)
        obtain ⟨hT4, laT4⟩ := hs1.lo lo4 (by decide) (by decide) (b := la H4) hs1.2.2.2.2.2.2.1 hs1.2.2.2.2.2.2.2
        obtain ⟨f4, u4, z4, y4⟩ := lo.tosf hs1.1.1 lo4 (by decide)
        have scT : sc t n H (mu_si H4 81 4 (0 : Int32)) k 0 := hsc.step (e' := 0) hT4 (f1.trans f4) (by omega) (by omega) (by omega)
        generalize mu_si H4 81 4 (0 : Int32) = G4 at lo4 hT4 laT4 f4 u4 z4 y4 scT ⊢
        have hla4 := hT4.2.2.2.2.2.2.2
        refine mw_go mu_g38 (k := 2) (f1 := (76, [(4, .inl (nI (la H4))), (3, .inl (nI k)), (0, .inr (.inr (some 81))), (1, .inr (.inr (some t))), (2, .inl (nI n))], [.inl (mu_i G4 81 2)], G4)) (C := [mu_is G4 (some 81) 4]) rfl (show mu_is G4 (some 81) 4 from hT4.1.1.is rfl) ?_
        rw [hT4.2.2.2.2.2.2.1]
        refine mw_go mu_g38 (k := 2) (f1 := (80, [(4, .inl (nI (la H4))), (3, .inl (nI k)), (0, .inr (.inr (some 81))), (1, .inr (.inr (some t))), (2, .inl (nI n))], [.inl (mu_i G4 81 1), .inl (nI (la G4))], G4)) (C := [mu_is G4 (some 81) 4]) rfl (show mu_is G4 (some 81) 4 from hT4.1.1.is rfl) ?_
        rw [hT4.2.2.2.2.2.1]
        refine mw_if (P := (nI (la G4)) < (nI n)) (a := 92) (b := 83) (fun _ => rfl) trivial (fun h5 => ?_) (fun h5 => ?_)
        · -- 92: (nI (la G4)) < (nI n)
          have hlt : la G4 < n := (nI_ltI (by omega) (by omega)).mp h5
          have hcl : mu_i G4 t (nI (la G4)).toNatClampNeg = mu_i G4 t (la G4) := by rw [nI_clamp (by omega)]
          refine mw_go mu_g38 (k := 2) (f1 := (96, [(4, .inl (nI (la H4))), (3, .inl (nI k)), (0, .inr (.inr (some 81))), (1, .inr (.inr (some t))), (2, .inl (nI n))], [.inr (.inr (mu_r G4 81 0))], G4)) (C := [mu_is G4 (some 81) 4]) rfl (show mu_is G4 (some 81) 4 from hT4.1.1.is rfl) ?_
          rw [hT4.2.1]
          refine mw_go mu_g38 (k := 2) (f1 := (100, [(4, .inl (nI (la H4))), (3, .inl (nI k)), (0, .inr (.inr (some 81))), (1, .inr (.inr (some t))), (2, .inl (nI n))], [.inl (mu_i G4 81 2), .inr (.inr (some t))], G4)) (C := [mu_is G4 (some 81) 4]) rfl (show mu_is G4 (some 81) 4 from hT4.1.1.is rfl) ?_
          rw [hT4.2.2.2.2.2.2.1]
          refine mw_go mu_g38 (k := 1) (f1 := (101, [(4, .inl (nI (la H4))), (3, .inl (nI k)), (0, .inr (.inr (some 81))), (1, .inr (.inr (some t))), (2, .inl (nI n))], [.inl (mu_i G4 t (nI (la G4)).toNatClampNeg)], G4)) (C := [mu_isr G4 (some t) 101, vp_in (nI (la G4)) (mu_n G4 t)]) rfl (show (mu_isr G4 (some t) 101) ∧ (vp_in (nI (la G4)) (mu_n G4 t)) from ⟨hT4.2.2.1.r, (by have := hT4.2.2.2.2.1; exact vp_in_nI (by omega) (by omega))⟩) ?_
          refine mw_cIe (fun _ => rfl) trivial (lx_letter_ok (d := (d + 6)) (mu_i G4 t (nI (la G4)).toNatClampNeg)) ?_
          refine mw_if (P := (lx_letter (mu_i G4 t (nI (la G4)).toNatClampNeg)) = 0) (a := 114) (b := 107) (fun _ => rfl) trivial (fun h7 => ?_) (fun h7 => ?_)
          · -- 114: (lx_letter (mu_i G4 t (nI (la G4)).toNatClampNeg)) = 0
            refine mw_go mu_g38 (k := 2) (f1 := (118, [(4, .inl (nI (la H4))), (3, .inl (nI k)), (0, .inr (.inr (some 81))), (1, .inr (.inr (some t))), (2, .inl (nI n))], [.inr (.inr (mu_r G4 81 0))], G4)) (C := [mu_is G4 (some 81) 4]) rfl (show mu_is G4 (some 81) 4 from hT4.1.1.is rfl) ?_
            rw [hT4.2.1]
            refine mw_go mu_g38 (k := 2) (f1 := (122, [(4, .inl (nI (la H4))), (3, .inl (nI k)), (0, .inr (.inr (some 81))), (1, .inr (.inr (some t))), (2, .inl (nI n))], [.inl (mu_i G4 81 2), .inr (.inr (some t))], G4)) (C := [mu_is G4 (some 81) 4]) rfl (show mu_is G4 (some 81) 4 from hT4.1.1.is rfl) ?_
            rw [hT4.2.2.2.2.2.2.1]
            refine mw_go mu_g38 (k := 1) (f1 := (123, [(4, .inl (nI (la H4))), (3, .inl (nI k)), (0, .inr (.inr (some 81))), (1, .inr (.inr (some t))), (2, .inl (nI n))], [.inl (mu_i G4 t (nI (la G4)).toNatClampNeg)], G4)) (C := [mu_isr G4 (some t) 101, vp_in (nI (la G4)) (mu_n G4 t)]) rfl (show (mu_isr G4 (some t) 101) ∧ (vp_in (nI (la G4)) (mu_n G4 t)) from ⟨hT4.2.2.1.r, (by have := hT4.2.2.2.2.1; exact vp_in_nI (by omega) (by omega))⟩) ?_
            refine mw_cIe (fun _ => rfl) trivial (lx_digit_ok (d := (d + 6)) (mu_i G4 t (nI (la G4)).toNatClampNeg)) ?_
            refine mw_if (P := (lx_digit (mu_i G4 t (nI (la G4)).toNatClampNeg)) = 0) (a := 136) (b := 129) (fun _ => rfl) trivial (fun h9 => ?_) (fun h9 => ?_)
            · -- 136: (lx_digit (mu_i G4 t (nI (la G4)).toNatClampNeg)) = 0
              refine mw_go mu_g38 (k := 1) (f1 := (137, [(4, .inl (nI (la H4))), (3, .inl (nI k)), (0, .inr (.inr (some 81))), (1, .inr (.inr (some t))), (2, .inl (nI n))], [.inr (.inr (some 81))], G4)) (C := []) rfl trivial ?_
              refine mw_cV (fun _ => rfl) (show mu_is G4 (some 81) 4 from hT4.1.1.is rfl) (ls_sign (d := d) hT4 hlt) (fun H10 q10 => ?_)
              obtain ⟨v1, v2, v3⟩ := q10
              obtain ⟨v4, v5, v6, v7⟩ := lo.tosf hT4.1.1 v2 (by decide)
              have hb : sc t n H H10 k 1 := scT.step (e' := 1) v1 v4 (by omega) (by omega) (by omega)
              have hbl : k + 1 ≤ la H10 := by omega
              refine mw_go mu_g38 (k := 2) (f1 := (144, [(4, .inl (nI (la H4))), (3, .inl (nI k)), (0, .inr (.inr (some 81))), (1, .inr (.inr (some t))), (2, .inl (nI n))], [.inr (.inr (mu_r H10 81 5))], H10)) (C := [mu_is H10 (some 81) 4]) rfl (show mu_is H10 (some 81) 4 from v1.1.1.is rfl) ?_
              rw [(v1.1.1.r (p := 81) (j := 5) (q := 82) rfl)]
              refine mw_go mu_g38 (k := 6) (f1 := (155, [(4, .inl (nI (la H4))), (3, .inl (nI k)), (0, .inr (.inr (some 81))), (1, .inr (.inr (some t))), (2, .inl (nI n))], [.inl (0 : Int32), .inl (nI (la H4)), .inl (mu_i H10 81 4), .inl (mu_i H10 81 3), .inr (.inr (some 82))], H10)) (C := [mu_is H10 (some 81) 4, mu_is H10 (some 81) 4]) rfl (show (mu_is H10 (some 81) 4) ∧ (mu_is H10 (some 81) 4) from ⟨v1.1.1.is rfl, v1.1.1.is rfl⟩) ?_
              refine mw_cI (fun _ => rfl) (show mu_is H10 (some 82) 10 from v1.1.1.is rfl) (gi_put_ok (d := (d + 4)) hb.1.1.1 (r := 82) (W := 3) rfl (by have := hb.2.2.2.2.2.2.1; omega) (mu_i H10 81 3) (mu_i H10 81 4) (nI (la H4)) (0 : Int32)) (fun x11 H11 q11 => ?_)
              obtain ⟨-, qg, qq⟩ := q11
              obtain ⟨p1, p2, p3, p4⟩ := hb.put (by decide) (by omega) qg qq
              refine mw_go mu_g38 (k := 3) (f1 := (34, [(3, .inl ((nI k) + 1)), (4, .inl (nI (la H4))), (0, .inr (.inr (some 81))), (1, .inr (.inr (some t))), (2, .inl (nI n))], [], H11)) (C := []) rfl trivial ?_
              rw [nI_1]
              exact mw_sub (by simp) (ih (k + 1, H11) ⟨p1, Or.inr ⟨(show 1 ≤ k + 1 by omega), (show cel H11 82 ((k + 1 - 1) * 3) = mu_i H11 81 3 from by rw [Nat.add_sub_cancel, p2, p4])⟩, Or.inr (Or.inr (show k + 1 ≤ la H11 by omega))⟩ (by show n + 2 - (k + 1) < n + 2 - k; omega))
            · -- 129: not (lx_digit (mu_i G4 t (nI (la G4)).toNatClampNeg)) = 0
              refine mw_go mu_g38 (k := 1) (f1 := (130, [(4, .inl (nI (la H4))), (3, .inl (nI k)), (0, .inr (.inr (some 81))), (1, .inr (.inr (some t))), (2, .inl (nI n))], [.inr (.inr (some 81))], G4)) (C := []) rfl trivial ?_
              refine mw_cV (fun _ => rfl) (show mu_is G4 (some 81) 4 from hT4.1.1.is rfl) (ls_num (d := (d + 5)) hT4 hlt (by rw [← hcl]; exact h9)) (fun H12 q12 => ?_)
              obtain ⟨v1, v2, v3⟩ := q12
              obtain ⟨v4, v5, v6, v7⟩ := lo.tosf hT4.1.1 v2 (by decide)
              have hb : sc t n H H12 k 1 := scT.step (e' := 1) v1 v4 (by omega) (by omega) (by omega)
              have hbl : k + 1 ≤ la H12 := by omega
              refine mw_go mu_g38 (k := 1) (f1 := (140, [(4, .inl (nI (la H4))), (3, .inl (nI k)), (0, .inr (.inr (some 81))), (1, .inr (.inr (some t))), (2, .inl (nI n))], [], H12)) (C := []) rfl trivial ?_
              refine mw_go mu_g38 (k := 2) (f1 := (144, [(4, .inl (nI (la H4))), (3, .inl (nI k)), (0, .inr (.inr (some 81))), (1, .inr (.inr (some t))), (2, .inl (nI n))], [.inr (.inr (mu_r H12 81 5))], H12)) (C := [mu_is H12 (some 81) 4]) rfl (show mu_is H12 (some 81) 4 from v1.1.1.is rfl) ?_
              rw [(v1.1.1.r (p := 81) (j := 5) (q := 82) rfl)]
              refine mw_go mu_g38 (k := 6) (f1 := (155, [(4, .inl (nI (la H4))), (3, .inl (nI k)), (0, .inr (.inr (some 81))), (1, .inr (.inr (some t))), (2, .inl (nI n))], [.inl (0 : Int32), .inl (nI (la H4)), .inl (mu_i H12 81 4), .inl (mu_i H12 81 3), .inr (.inr (some 82))], H12)) (C := [mu_is H12 (some 81) 4, mu_is H12 (some 81) 4]) rfl (show (mu_is H12 (some 81) 4) ∧ (mu_is H12 (some 81) 4) from ⟨v1.1.1.is rfl, v1.1.1.is rfl⟩) ?_
              refine mw_cI (fun _ => rfl) (show mu_is H12 (some 82) 10 from v1.1.1.is rfl) (gi_put_ok (d := (d + 4)) hb.1.1.1 (r := 82) (W := 3) rfl (by have := hb.2.2.2.2.2.2.1; omega) (mu_i H12 81 3) (mu_i H12 81 4) (nI (la H4)) (0 : Int32)) (fun x13 H13 q13 => ?_)
              obtain ⟨-, qg, qq⟩ := q13
              obtain ⟨p1, p2, p3, p4⟩ := hb.put (by decide) (by omega) qg qq
              refine mw_go mu_g38 (k := 3) (f1 := (34, [(3, .inl ((nI k) + 1)), (4, .inl (nI (la H4))), (0, .inr (.inr (some 81))), (1, .inr (.inr (some t))), (2, .inl (nI n))], [], H13)) (C := []) rfl trivial ?_
              rw [nI_1]
              exact mw_sub (by simp) (ih (k + 1, H13) ⟨p1, Or.inr ⟨(show 1 ≤ k + 1 by omega), (show cel H13 82 ((k + 1 - 1) * 3) = mu_i H13 81 3 from by rw [Nat.add_sub_cancel, p2, p4])⟩, Or.inr (Or.inr (show k + 1 ≤ la H13 by omega))⟩ (by show n + 2 - (k + 1) < n + 2 - k; omega))
          · -- 107: not (lx_letter (mu_i G4 t (nI (la G4)).toNatClampNeg)) = 0
            refine mw_go mu_g38 (k := 1) (f1 := (108, [(4, .inl (nI (la H4))), (3, .inl (nI k)), (0, .inr (.inr (some 81))), (1, .inr (.inr (some t))), (2, .inl (nI n))], [.inr (.inr (some 81))], G4)) (C := []) rfl trivial ?_
            refine mw_cV (fun _ => rfl) (show mu_is G4 (some 81) 4 from hT4.1.1.is rfl) (ls_word (d := (d + 1)) hT4 hlt (by rw [← hcl]; exact h7) (by have := scT.2.2.2.2.2.2.2.2.2; omega) (by have := scT.2.2.2.2.2.2.2.2.1; omega)) (fun H14 q14 => ?_)
            obtain ⟨v1, v2, v3, v4, v5⟩ := q14
            have hb : sc t n H H14 k 1 := scT.step (e' := 1) v1 v2 (by omega) (by omega) v5
            have hbl : k + 1 ≤ la H14 := by omega
            refine mw_go mu_g38 (k := 1) (f1 := (140, [(4, .inl (nI (la H4))), (3, .inl (nI k)), (0, .inr (.inr (some 81))), (1, .inr (.inr (some t))), (2, .inl (nI n))], [], H14)) (C := []) rfl trivial ?_
            refine mw_go mu_g38 (k := 2) (f1 := (144, [(4, .inl (nI (la H4))), (3, .inl (nI k)), (0, .inr (.inr (some 81))), (1, .inr (.inr (some t))), (2, .inl (nI n))], [.inr (.inr (mu_r H14 81 5))], H14)) (C := [mu_is H14 (some 81) 4]) rfl (show mu_is H14 (some 81) 4 from v1.1.1.is rfl) ?_
            rw [(v1.1.1.r (p := 81) (j := 5) (q := 82) rfl)]
            refine mw_go mu_g38 (k := 6) (f1 := (155, [(4, .inl (nI (la H4))), (3, .inl (nI k)), (0, .inr (.inr (some 81))), (1, .inr (.inr (some t))), (2, .inl (nI n))], [.inl (0 : Int32), .inl (nI (la H4)), .inl (mu_i H14 81 4), .inl (mu_i H14 81 3), .inr (.inr (some 82))], H14)) (C := [mu_is H14 (some 81) 4, mu_is H14 (some 81) 4]) rfl (show (mu_is H14 (some 81) 4) ∧ (mu_is H14 (some 81) 4) from ⟨v1.1.1.is rfl, v1.1.1.is rfl⟩) ?_
            refine mw_cI (fun _ => rfl) (show mu_is H14 (some 82) 10 from v1.1.1.is rfl) (gi_put_ok (d := (d + 4)) hb.1.1.1 (r := 82) (W := 3) rfl (by have := hb.2.2.2.2.2.2.1; omega) (mu_i H14 81 3) (mu_i H14 81 4) (nI (la H4)) (0 : Int32)) (fun x15 H15 q15 => ?_)
            obtain ⟨-, qg, qq⟩ := q15
            obtain ⟨p1, p2, p3, p4⟩ := hb.put (by decide) (by omega) qg qq
            refine mw_go mu_g38 (k := 3) (f1 := (34, [(3, .inl ((nI k) + 1)), (4, .inl (nI (la H4))), (0, .inr (.inr (some 81))), (1, .inr (.inr (some t))), (2, .inl (nI n))], [], H15)) (C := []) rfl trivial ?_
            rw [nI_1]
            exact mw_sub (by simp) (ih (k + 1, H15) ⟨p1, Or.inr ⟨(show 1 ≤ k + 1 by omega), (show cel H15 82 ((k + 1 - 1) * 3) = mu_i H15 81 3 from by rw [Nat.add_sub_cancel, p2, p4])⟩, Or.inr (Or.inr (show k + 1 ≤ la H15 by omega))⟩ (by show n + 2 - (k + 1) < n + 2 - k; omega))
        · -- 83: not (nI (la G4)) < (nI n)
          refine mw_go mu_g38 (k := 4) (f1 := (140, [(4, .inl (nI (la H4))), (3, .inl (nI k)), (0, .inr (.inr (some 81))), (1, .inr (.inr (some t))), (2, .inl (nI n))], [], (mu_si G4 81 3 (114 : Int32)))) (C := [mu_is G4 (some 81) 4]) rfl (show mu_is G4 (some 81) 4 from hT4.1.1.is rfl) ?_
          have lo5 : lo [3] G4 (mu_si G4 81 3 (114 : Int32)) := lo.si (lo.refl [3] G4) (by decide)
          obtain ⟨v1, v2⟩ := hT4.lo lo5 (by decide) (by decide) (b := la G4) hT4.2.2.2.2.2.2.1 hT4.2.2.2.2.2.2.2
          obtain ⟨v4, v5, v6, v7⟩ := lo.tosf hT4.1.1 lo5 (by decide)
          have hb : sc t n H (mu_si G4 81 3 (114 : Int32)) k 1 := scT.step (e' := 1) v1 v4 (by omega) (by omega) (by omega)
          have hkd : mu_i (mu_si G4 81 3 (114 : Int32)) 81 3 = 114 := rfl
          generalize (mu_si G4 81 3 (114 : Int32)) = G5 at v1 v2 v4 v5 v6 v7 hb hkd ⊢
          refine mw_go mu_g38 (k := 2) (f1 := (144, [(4, .inl (nI (la H4))), (3, .inl (nI k)), (0, .inr (.inr (some 81))), (1, .inr (.inr (some t))), (2, .inl (nI n))], [.inr (.inr (mu_r G5 81 5))], G5)) (C := [mu_is G5 (some 81) 4]) rfl (show mu_is G5 (some 81) 4 from hb.1.1.1.is rfl) ?_
          rw [(hb.1.1.1.r (p := 81) (j := 5) (q := 82) rfl)]
          refine mw_go mu_g38 (k := 6) (f1 := (155, [(4, .inl (nI (la H4))), (3, .inl (nI k)), (0, .inr (.inr (some 81))), (1, .inr (.inr (some t))), (2, .inl (nI n))], [.inl (0 : Int32), .inl (nI (la H4)), .inl (mu_i G5 81 4), .inl (mu_i G5 81 3), .inr (.inr (some 82))], G5)) (C := [mu_is G5 (some 81) 4, mu_is G5 (some 81) 4]) rfl (show (mu_is G5 (some 81) 4) ∧ (mu_is G5 (some 81) 4) from ⟨hb.1.1.1.is rfl, hb.1.1.1.is rfl⟩) ?_
          refine mw_cI (fun _ => rfl) (show mu_is G5 (some 82) 10 from hb.1.1.1.is rfl) (gi_put_ok (d := (d + 4)) hb.1.1.1 (r := 82) (W := 3) rfl (by have := hb.2.2.2.2.2.2.1; omega) (mu_i G5 81 3) (mu_i G5 81 4) (nI (la H4)) (0 : Int32)) (fun x16 H16 q16 => ?_)
          obtain ⟨-, qg, qq⟩ := q16
          obtain ⟨p1, p2, p3, p4⟩ := hb.put (by decide) (by omega) qg qq
          refine mw_go mu_g38 (k := 3) (f1 := (34, [(3, .inl ((nI k) + 1)), (4, .inl (nI (la H4))), (0, .inr (.inr (some 81))), (1, .inr (.inr (some t))), (2, .inl (nI n))], [], H16)) (C := []) rfl trivial ?_
          rw [nI_1]
          exact mw_sub (by simp) (ih (k + 1, H16) ⟨p1, Or.inr ⟨(show 1 ≤ k + 1 by omega), (show cel H16 82 ((k + 1 - 1) * 3) = mu_i H16 81 3 from by rw [Nat.add_sub_cancel, p2, p4])⟩, Or.inl (show mu_i H16 81 3 = 114 from p4.trans hkd)⟩ (by show n + 2 - (k + 1) < n + 2 - k; omega))
end LexScan3
