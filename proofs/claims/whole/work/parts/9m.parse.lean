/-! THE LEXER ONCE MORE: where a TOKEN stands; A TEXT IS PARSED, with what the tables hold -/
/-- each of the first k TOKENS has a PLACE -/
def pl (n k : Nat) (H : mu_H) : Prop := ∀ i, i < k → ∃ p, p ≤ n ∧ cel H 82 (i * 3 + 2) = nI p
section Places
variable {H H1 Hs : mu_H} {n k : Nat}
theorem pl.via (h : pl n k Hs) (h2 : sf Hs H1) : pl n k H1 := fun i hi => by
  obtain ⟨p, hp, e⟩ := h i hi
  refine ⟨p, hp, ?_⟩
  obtain ⟨-, -, ⟨q3, q4⟩, -⟩ := h2
  rw [← e]
  unfold cel
  rw [q3.r]
  exact q4.i _
theorem pl.put {a1 a2 a4 : Int32} {p : Nat} (h : pl n k Hs) (hz : gi_sz Hs 82 = k) (hq : gq Hs H1 82 3 (rw_col a1 a2 (nI p) a4)) (hp : p ≤ n) : pl n (k + 1) H1 := fun i hi => by
  obtain ⟨-, -, -, -, q5, q6⟩ := hq
  by_cases hi2 : i < k
  · obtain ⟨p', hp', e⟩ := h i hi2
    exact ⟨p', hp', (q5 (i * 3 + 2) (by omega)).trans e⟩
  · have : i = k := by omega
    subst this
    have := q6 2 (by decide)
    rw [hz] at this
    exact ⟨p, hp, this⟩
end Places
section LexScan4
variable {H : mu_H} {d t n : Nat}
theorem ls_scan2 (hg : gi H) (h0 : mu_r H 0 0 = some t) (hn : n ≤ mu_n H t) (hn2 : n ≤ 1000000) : mu_TV (mu_D (d + 8)) 38 [.inr (.inr (some 81)), .inr (.inr (some t)), .inl (nI n)] H (fun H1 => gi H1 ∧ lk ls_S H H1 ∧ (mu_r H1 81 0 = some t ∧ ∀ j, j ≠ 7 → j ≠ 0 → mu_r H1 81 j = mu_r H 81 j) ∧ (1 ≤ gi_sz H1 82 ∧ gi_sz H1 82 ≤ n + 1 ∧ ¬ cel H1 82 ((gi_sz H1 82 - 1) * 3) < 114) ∧ mu_n H1 (lt7 H1) ≤ max (mu_n H (lt7 H)) (3 * (135 + n)) ∧ gi_cap H1 86 ≤ max (gi_cap H 86) (8 * (136 + n) + 4) ∧ gi_cap H1 82 ≤ max (gi_cap H 82) (6 * (n + 1) + 3) ∧ pl n (gi_sz H1 82) H1) := by
  have ht : mu_is H (some t) 101 := by rw [← h0]; exact hg.2.2.2.2.2.2.2.1.1
  have ht7 : t ≠ lt7 H := fun e => by
    have h7 := (lw.g7 hg).1
    have h8 := hg.2.2.2.2.2.2.2.1.2.2.1
    rw [h0, h7] at h8
    exact h8 (by rw [e]; rfl)
  have htn : mu_n H t ≤ 16777216 := by
    have := (hg.2.2.2.2.2.2.2.2.1 (0, 0) List.mem_cons_self).2
    have e : gi_len H (0, 0) = mu_n H t := by show mu_n H (mu_p (mu_r H 0 0)) = _; rw [h0]; rfl
    omega
  have gA : gi (mu_sr H 81 0 (some t)) := hg.sr rfl rfl (by decide)
  have kA : gk ls_S H (mu_sr H 81 0 (some t)) := gk.sr hg (k := 4) rfl rfl (by decide) rfl (fun q hq => by cases hq; exact Or.inr ⟨0, 0, rfl, h0⟩)
  have g0 : gi (mu_si (mu_si (mu_sr H 81 0 (some t)) 81 1 (nI n)) 81 2 (0 : Int32)) := (gA.si (k := 4) rfl rfl).si (k := 4) rfl rfl
  have k0 : gk ls_S H (mu_si (mu_si (mu_sr H 81 0 (some t)) 81 1 (nI n)) 81 2 (0 : Int32)) := (kA.trans (gk.si gA (k := 4) rfl rfl)).trans (gk.si (gA.si (k := 4) rfl rfl) (k := 4) rfl rfl)
  have g1 : gi (mu_si (mu_si (mu_si (mu_sr H 81 0 (some t)) 81 1 (nI n)) 81 2 (0 : Int32)) 82 2 0) := (g0.size (r := 82) (W := 3) (k := 0) rfl (Nat.zero_le _)).1
  have k1 : gk ls_S H (mu_si (mu_si (mu_si (mu_sr H 81 0 (some t)) 81 1 (nI n)) 81 2 (0 : Int32)) 82 2 0) := k0.trans (gk.si g0 (k := 10) rfl rfl)
  refine mu_meth (M := mu_m38) rfl rfl ?_
  refine mw_ht (mu_fn_of (show [0, 1, 2].Nodup by decide)) ?_
  refine mw_go mu_g38 (k := 11) (f1 := (19, [(0, .inr (.inr (some 81))), (1, .inr (.inr (some t))), (2, .inl (nI n))], [.inr (.inr (mu_r (mu_si (mu_si (mu_sr H 81 0 (some t)) 81 1 (nI n)) 81 2 (0 : Int32)) 81 5))], (mu_si (mu_si (mu_sr H 81 0 (some t)) 81 1 (nI n)) 81 2 (0 : Int32)))) (C := [mu_is H (some 81) 4, mu_is (mu_sr H 81 0 (some t)) (some 81) 4, mu_is (mu_si (mu_sr H 81 0 (some t)) 81 1 (nI n)) (some 81) 4, mu_is (mu_si (mu_si (mu_sr H 81 0 (some t)) 81 1 (nI n)) 81 2 (0 : Int32)) (some 81) 4]) rfl ⟨hg.is rfl, gA.is rfl, (gA.si (k := 4) (p := 81) (j := 1) (x := nI n) rfl rfl).is rfl, g0.is rfl⟩ ?_
  rw [g0.r (p := 81) (j := 5) (q := 82) rfl]
  refine mw_cVe (fun _ => rfl) (show mu_is (mu_si (mu_si (mu_sr H 81 0 (some t)) 81 1 (nI n)) 81 2 (0 : Int32)) (some 82) 10 from g0.is rfl) (rw_clear_ok (d := d + 6) (g0.w (r := 82) (W := 3) rfl)) ?_
  refine mw_go mu_g38 (k := 1) (f1 := (23, [(0, .inr (.inr (some 81))), (1, .inr (.inr (some t))), (2, .inl (nI n))], [.inr (.inr (some 81))], mu_si (mu_si (mu_si (mu_sr H 81 0 (some t)) 81 1 (nI n)) 81 2 (0 : Int32)) 82 2 0)) (C := []) rfl trivial ?_
  have e0 : mu_r (mu_si (mu_si (mu_si (mu_sr H 81 0 (some t)) 81 1 (nI n)) 81 2 (0 : Int32)) 82 2 0) 81 0 = some t := rfl
  have e1 : mu_i (mu_si (mu_si (mu_si (mu_sr H 81 0 (some t)) 81 1 (nI n)) 81 2 (0 : Int32)) 82 2 0) 81 1 = nI n := rfl
  have e2 : mu_i (mu_si (mu_si (mu_si (mu_sr H 81 0 (some t)) 81 1 (nI n)) 81 2 (0 : Int32)) 82 2 0) 81 2 = 0 := rfl
  have e7 : lt7 (mu_si (mu_si (mu_si (mu_sr H 81 0 (some t)) 81 1 (nI n)) 81 2 (0 : Int32)) 82 2 0) = lt7 H := rfl
  have n7 : mu_n (mu_si (mu_si (mu_si (mu_sr H 81 0 (some t)) 81 1 (nI n)) 81 2 (0 : Int32)) 82 2 0) (lt7 (mu_si (mu_si (mu_si (mu_sr H 81 0 (some t)) 81 1 (nI n)) 81 2 (0 : Int32)) 82 2 0)) = mu_n H (lt7 H) := rfl
  have c86 : gi_cap (mu_si (mu_si (mu_si (mu_sr H 81 0 (some t)) 81 1 (nI n)) 81 2 (0 : Int32)) 82 2 0) 86 = gi_cap H 86 := rfl
  have c82 : gi_cap (mu_si (mu_si (mu_si (mu_sr H 81 0 (some t)) 81 1 (nI n)) 81 2 (0 : Int32)) 82 2 0) 82 = gi_cap H 82 := rfl
  have z82 : gi_sz (mu_si (mu_si (mu_si (mu_sr H 81 0 (some t)) 81 1 (nI n)) 81 2 (0 : Int32)) 82 2 0) 82 = 0 := rfl
  have rr : ∀ j, j ≠ 0 → mu_r (mu_si (mu_si (mu_si (mu_sr H 81 0 (some t)) 81 1 (nI n)) 81 2 (0 : Int32)) 82 2 0) 81 j = mu_r H 81 j := fun j hj => by show mu_r (mu_sr H 81 0 (some t)) 81 j = _; rw [mu_r_sr, if_neg (fun z => hj z.2)]
  have t1 : mu_is (mu_si (mu_si (mu_si (mu_sr H 81 0 (some t)) 81 1 (nI n)) 81 2 (0 : Int32)) 82 2 0) (some t) 101 := k1.is ht
  have tn1 : mu_n (mu_si (mu_si (mu_si (mu_sr H 81 0 (some t)) 81 1 (nI n)) 81 2 (0 : Int32)) 82 2 0) t = mu_n H t := rfl
  generalize mu_si (mu_si (mu_si (mu_sr H 81 0 (some t)) 81 1 (nI n)) 81 2 (0 : Int32)) 82 2 0 = G1 at g1 k1 e0 e1 e2 e7 n7 c86 c82 z82 rr t1 tn1 ⊢
  refine mw_cV (fun _ => rfl) (show mu_is G1 (some 81) 4 from g1.is rfl) (ls_forget (d := d + 1) g1) (fun G2 q => ?_)
  obtain ⟨f1, f2, f3, f4, ⟨f5, f6⟩, f7, f8, f9, f10⟩ := q
  have hla2 : la G2 = 0 := by unfold la; rw [f4 2 (by decide) (by decide), e2]; rfl
  have hls2 : ls t n G2 := by
    refine ⟨f1, (f3 0 (by decide)).trans e0, f2.is t1, ?_, by rw [(f2.2.1 t t1.2.1).2, tn1]; exact ⟨hn, htn⟩, (f4 1 (by decide) (by decide)).trans e1, ?_, by omega⟩
    · rcases f2.2.2.2.2.2.2.2.2 with z | z
      · rw [z, e7]; exact ht7
      · intro e
        have h9 : t < mu_z G1 := t1.2.1
        omega
    · rw [f4 2 (by decide) (by decide), e2, hla2]; rfl
  have z2 : gi_sz G2 82 = 0 := by unfold gi_sz; rw [f5.i]; exact z82
  have c2 : gi_cap G2 82 = gi_cap H 82 := by unfold gi_cap; rw [f5.r, f6.2.1]; exact c82
  have sc2 : sc t n H G2 0 0 := ⟨hls2, (lk.of k1 (rr 7 (by decide))).trans f2, fun j h7 h0 => (f3 j h7).trans (rr j h0), by omega, by omega, by omega, z2, by omega, by omega, by omega⟩
  have lo3 : lo [3] G2 (mu_si G2 81 3 (112 : Int32)) := lo.si (lo.refl [3] G2) (by decide)
  obtain ⟨hls3, la3⟩ := hls2.lo lo3 (by decide) (by decide) (b := la G2) hls2.2.2.2.2.2.2.1 hls2.2.2.2.2.2.2.2
  obtain ⟨sf3, u3, zz3, y3⟩ := lo.tosf hls2.1.1 lo3 (by decide)
  have sc3 : sc t n H (mu_si G2 81 3 (112 : Int32)) 0 0 := sc2.step (e' := 0) hls3 sf3 (by omega) (by omega) (by omega)
  have k3 : mu_i (mu_si G2 81 3 (112 : Int32)) 81 3 = 112 := rfl
  refine mw_go mu_g38 (k := 5) (f1 := (34, [(3, .inl (0 : Int32)), (0, .inr (.inr (some 81))), (1, .inr (.inr (some t))), (2, .inl (nI n))], [], mu_si G2 81 3 (112 : Int32))) (C := [mu_is G2 (some 81) 4]) rfl (show mu_is G2 (some 81) 4 from f1.1.is rfl) ?_
  generalize mu_si G2 81 3 (112 : Int32) = G3 at sc3 k3 ⊢
  refine mw_sub (L' := [(3, .inl (nI 0)), (0, .inr (.inr (some 81))), (1, .inr (.inr (some t))), (2, .inl (nI n))]) (by simp [show nI 0 = 0 from rfl]) ?_
  refine mw_down (α := Nat × mu_H) (fun zs => (34, [(3, .inl (nI zs.1)), (0, .inr (.inr (some 81))), (1, .inr (.inr (some t))), (2, .inl (nI n))], [], zs.2)) (fun zs => n + 2 - zs.1) (fun zs => sc t n H zs.2 zs.1 0 ∧ ((zs.1 = 0 ∧ mu_i zs.2 81 3 = 112) ∨ (1 ≤ zs.1 ∧ cel zs.2 82 ((zs.1 - 1) * 3) = mu_i zs.2 81 3)) ∧ (mu_i zs.2 81 3 = 114 ∨ mu_i zs.2 81 3 = 115 ∨ zs.1 ≤ la zs.2) ∧ pl n zs.1 zs.2) (fun zs hz ih => ?_) (0, G3) ⟨sc3, Or.inl ⟨rfl, k3⟩, Or.inr (Or.inr (Nat.zero_le _)), fun i hi => absurd hi (Nat.not_lt_zero i)⟩
  obtain ⟨k, Hs⟩ := zs
  obtain ⟨hsc, hI5, hI6, hpl⟩ := hz
  have hpl : pl n k Hs := hpl
  have hsc : sc t n H Hs k 0 := hsc
  have hI5 : (k = 0 ∧ mu_i Hs 81 3 = 112) ∨ (1 ≤ k ∧ cel Hs 82 ((k - 1) * 3) = mu_i Hs 81 3) := hI5
  have hI6 : mu_i Hs 81 3 = 114 ∨ mu_i Hs 81 3 = 115 ∨ k ≤ la Hs := hI6
  have hls : ls t n Hs := hsc.1
  have hlan := hls.2.2.2.2.2.2.2
  have hk82 := hsc.2.2.2.2.2.2.1
  have hkla := hsc.2.2.2.2.2.2.2.1
  show mu_W _ _ (34, [(3, .inl (nI k)), (0, .inr (.inr (some 81))), (1, .inr (.inr (some t))), (2, .inl (nI n))], [], Hs) _
  refine mw_go mu_g38 (k := 2) (f1 := (36, [(3, .inl (nI k)), (0, .inr (.inr (some 81))), (1, .inr (.inr (some t))), (2, .inl (nI n))], [.inl (nI n), .inl (nI k)], Hs)) (C := []) rfl trivial ?_
  refine mw_if (P := (nI n) < (nI k)) (a := 165) (b := 39) (fun _ => rfl) trivial (fun h1 => ?_) (fun h1 => ?_)
  · -- 165: (nI n) < (nI k)
    have hnk : n < k := (nI_ltI (by omega) (by omega)).mp h1
    have hend : mu_i Hs 81 3 = 114 ∨ mu_i Hs 81 3 = 115 := by rcases hI6 with z | z | z; exact Or.inl z; exact Or.inr z; omega
    obtain ⟨s1, s2, s3, s4, s5, s6, s7, s8, s9, s10⟩ := hsc
    have h1k : 1 ≤ k ∧ cel Hs 82 ((k - 1) * 3) = mu_i Hs 81 3 := by
      rcases hI5 with ⟨-, z⟩ | z
      · exfalso
        rw [z] at hend
        exact absurd hend (by decide)
      · exact z
    have hke : ¬ cel Hs 82 ((gi_sz Hs 82 - 1) * 3) < 114 := by
      rw [s7, h1k.2]
      rcases hend with z | z <;> rw [z] <;> decide
    exact mw_of (fun _ => mu_ret rfl trivial ⟨Hs, rfl, s1.1.1, s2, ⟨s1.2.1, s3⟩, ⟨by omega, by omega, hke⟩, by omega, by omega, by omega, by rw [s7]; exact hpl⟩)
  · -- 39: not (nI n) < (nI k)
    have hnk : k ≤ n := Nat.le_of_not_lt (fun z => h1 (nI_lt z (by omega)))
    refine mw_go mu_g38 (k := 3) (f1 := (45, [(3, .inl (nI k)), (0, .inr (.inr (some 81))), (1, .inr (.inr (some t))), (2, .inl (nI n))], [.inl (114 : Int32), .inl (mu_i Hs 81 3)], Hs)) (C := [mu_is Hs (some 81) 4]) rfl (show mu_is Hs (some 81) 4 from hls.1.1.is rfl) ?_
    refine mw_if (P := (mu_i Hs 81 3) = (114 : Int32)) (a := 165) (b := 48) (fun _ => rfl) trivial (fun h2 => ?_) (fun h2 => ?_)
    · -- 165: (mu_i Hs 81 3) = (114 : Int32)
      have hend : mu_i Hs 81 3 = 114 ∨ mu_i Hs 81 3 = 115 := Or.inl h2
      obtain ⟨s1, s2, s3, s4, s5, s6, s7, s8, s9, s10⟩ := hsc
      have h1k : 1 ≤ k ∧ cel Hs 82 ((k - 1) * 3) = mu_i Hs 81 3 := by
        rcases hI5 with ⟨-, z⟩ | z
        · exfalso
          rw [z] at hend
          exact absurd hend (by decide)
        · exact z
      have hke : ¬ cel Hs 82 ((gi_sz Hs 82 - 1) * 3) < 114 := by
        rw [s7, h1k.2]
        rcases hend with z | z <;> rw [z] <;> decide
      exact mw_of (fun _ => mu_ret rfl trivial ⟨Hs, rfl, s1.1.1, s2, ⟨s1.2.1, s3⟩, ⟨by omega, by omega, hke⟩, by omega, by omega, by omega, by rw [s7]; exact hpl⟩)
    · -- 48: not (mu_i Hs 81 3) = (114 : Int32)
      refine mw_go mu_g38 (k := 3) (f1 := (54, [(3, .inl (nI k)), (0, .inr (.inr (some 81))), (1, .inr (.inr (some t))), (2, .inl (nI n))], [.inl (115 : Int32), .inl (mu_i Hs 81 3)], Hs)) (C := [mu_is Hs (some 81) 4]) rfl (show mu_is Hs (some 81) 4 from hls.1.1.is rfl) ?_
      refine mw_if (P := (mu_i Hs 81 3) = (115 : Int32)) (a := 165) (b := 57) (fun _ => rfl) trivial (fun h3 => ?_) (fun h3 => ?_)
      · -- 165: (mu_i Hs 81 3) = (115 : Int32)
        have hend : mu_i Hs 81 3 = 114 ∨ mu_i Hs 81 3 = 115 := Or.inr h3
        obtain ⟨s1, s2, s3, s4, s5, s6, s7, s8, s9, s10⟩ := hsc
        have h1k : 1 ≤ k ∧ cel Hs 82 ((k - 1) * 3) = mu_i Hs 81 3 := by
          rcases hI5 with ⟨-, z⟩ | z
          · exfalso
            rw [z] at hend
            exact absurd hend (by decide)
          · exact z
        have hke : ¬ cel Hs 82 ((gi_sz Hs 82 - 1) * 3) < 114 := by
          rw [s7, h1k.2]
          rcases hend with z | z <;> rw [z] <;> decide
        exact mw_of (fun _ => mu_ret rfl trivial ⟨Hs, rfl, s1.1.1, s2, ⟨s1.2.1, s3⟩, ⟨by omega, by omega, hke⟩, by omega, by omega, by omega, by rw [s7]; exact hpl⟩)
      · -- 57: not (mu_i Hs 81 3) = (115 : Int32)
        have hkl : k ≤ la Hs := by rcases hI6 with z | z | z; exact absurd z h2; exact absurd z h3; exact z
        refine mw_go mu_g38 (k := 1) (f1 := (58, [(3, .inl (nI k)), (0, .inr (.inr (some 81))), (1, .inr (.inr (some t))), (2, .inl (nI n))], [.inr (.inr (some 81))], Hs)) (C := []) rfl trivial ?_
        refine mw_cV (fun _ => rfl) (show mu_is Hs (some 81) 4 from hls.1.1.is rfl) (ls_skip (d := (d + 6)) hls) (fun H4 q4 => ?_)
        obtain ⟨hs1, ho1, hla1⟩ := q4
        obtain ⟨f1, u1, z1, y1⟩ := lo.tosf hls.1.1 ho1 (by decide)
        have hI1 := ho1
        have pl1 : pl n k H4 := hpl.via f1
        refine mw_go mu_g38 (k := 2) (f1 := (65, [(3, .inl (nI k)), (0, .inr (.inr (some 81))), (1, .inr (.inr (some t))), (2, .inl (nI n))], [.inl (mu_i H4 81 2)], H4)) (C := [mu_is H4 (some 81) 4]) rfl (show mu_is H4 (some 81) 4 from hs1.1.1.is rfl) ?_
        rw [hs1.2.2.2.2.2.2.1]
        refine mw_go mu_g38 (k := 4) (f1 := (72, [(4, .inl (nI (la H4))), (3, .inl (nI k)), (0, .inr (.inr (some 81))), (1, .inr (.inr (some t))), (2, .inl (nI n))], [], (mu_si H4 81 4 (0 : Int32)))) (C := [mu_is H4 (some 81) 4]) rfl (show mu_is H4 (some 81) 4 from hs1.1.1.is rfl) ?_
        have lo4 : lo [4] H4 (mu_si H4 81 4 (0 : Int32)) := lo.si (lo.refl [4] H4) (by decide)
        obtain ⟨hT4, laT4⟩ := hs1.lo lo4 (by decide) (by decide) (b := la H4) hs1.2.2.2.2.2.2.1 hs1.2.2.2.2.2.2.2
        obtain ⟨f4, u4, z4, y4⟩ := lo.tosf hs1.1.1 lo4 (by decide)
        have scT : sc t n H (mu_si H4 81 4 (0 : Int32)) k 0 := hsc.step (e' := 0) hT4 (f1.trans f4) (by omega) (by omega) (by omega)
        have plT : pl n k (mu_si H4 81 4 (0 : Int32)) := pl1.via f4
        generalize mu_si H4 81 4 (0 : Int32) = G4 at lo4 hT4 laT4 f4 u4 z4 y4 scT plT ⊢
        have hla4 := hT4.2.2.2.2.2.2.2
        have hla1 : la H4 ≤ n := hs1.2.2.2.2.2.2.2
        refine mw_go mu_g38 (k := 2) (f1 := (76, [(4, .inl (nI (la H4))), (3, .inl (nI k)), (0, .inr (.inr (some 81))), (1, .inr (.inr (some t))), (2, .inl (nI n))], [.inl (mu_i G4 81 2)], G4)) (C := [mu_is G4 (some 81) 4]) rfl (show mu_is G4 (some 81) 4 from hT4.1.1.is rfl) ?_
        rw [hT4.2.2.2.2.2.2.1]
        refine mw_go mu_g38 (k := 2) (f1 := (80, [(4, .inl (nI (la H4))), (3, .inl (nI k)), (0, .inr (.inr (some 81))), (1, .inr (.inr (some t))), (2, .inl (nI n))], [.inl (mu_i G4 81 1), .inl (nI (la G4))], G4)) (C := [mu_is G4 (some 81) 4]) rfl (show mu_is G4 (some 81) 4 from hT4.1.1.is rfl) ?_
        rw [hT4.2.2.2.2.2.1]
        refine mw_if (P := (nI (la G4)) < (nI n)) (a := 92) (b := 83) (fun _ => rfl) trivial (fun h5 => ?_) (fun h5 => ?_)
        · -- 92: (nI (la G4)) < (nI n)
          have hlt : la G4 < n := (nI_ltI (by omega) (by omega)).mp h5
          have hcl : mu_i G4 t (nI (la G4)).toNatClampNeg = mu_i G4 t (la G4) := by rw [nI_clamp (by omega)]
          refine mw_go mu_g38 (k := 2) (f1 := (96, [(4, .inl (nI (la H4))), (3, .inl (nI k)), (0, .inr (.inr (some 81))), (1, .inr (.inr (some t))), (2, .inl (nI n))], [.inr (.inr (mu_r G4 81 0))], G4)) (C := [mu_is G4 (some 81) 4]) rfl (show mu_is G4 (some 81) 4 from hT4.1.1.is rfl) ?_
          rw [hT4.2.1]
          refine mw_go mu_g38 (k := 2) (f1 := (100, [(4, .inl (nI (la H4))), (3, .inl (nI k)), (0, .inr (.inr (some 81))), (1, .inr (.inr (some t))), (2, .inl (nI n))], [.inl (mu_i G4 81 2), .inr (.inr (some t))], G4)) (C := [mu_is G4 (some 81) 4]) rfl (show mu_is G4 (some 81) 4 from hT4.1.1.is rfl) ?_
          rw [hT4.2.2.2.2.2.2.1]
          refine mw_go mu_g38 (k := 1) (f1 := (101, [(4, .inl (nI (la H4))), (3, .inl (nI k)), (0, .inr (.inr (some 81))), (1, .inr (.inr (some t))), (2, .inl (nI n))], [.inl (mu_i G4 t (nI (la G4)).toNatClampNeg)], G4)) (C := [mu_isr G4 (some t) 101, vp_in (nI (la G4)) (mu_n G4 t)]) rfl (show (mu_isr G4 (some t) 101) ∧ (vp_in (nI (la G4)) (mu_n G4 t)) from ⟨hT4.2.2.1.r, (by have := hT4.2.2.2.2.1; exact vp_in_nI (by omega) (by omega))⟩) ?_
          refine mw_cIe (fun _ => rfl) trivial (lx_letter_ok (d := (d + 6)) (mu_i G4 t (nI (la G4)).toNatClampNeg)) ?_
          refine mw_if (P := (lx_letter (mu_i G4 t (nI (la G4)).toNatClampNeg)) = 0) (a := 114) (b := 107) (fun _ => rfl) trivial (fun h7 => ?_) (fun h7 => ?_)
          · -- 114: (lx_letter (mu_i G4 t (nI (la G4)).toNatClampNeg)) = 0
            refine mw_go mu_g38 (k := 2) (f1 := (118, [(4, .inl (nI (la H4))), (3, .inl (nI k)), (0, .inr (.inr (some 81))), (1, .inr (.inr (some t))), (2, .inl (nI n))], [.inr (.inr (mu_r G4 81 0))], G4)) (C := [mu_is G4 (some 81) 4]) rfl (show mu_is G4 (some 81) 4 from hT4.1.1.is rfl) ?_
            rw [hT4.2.1]
            refine mw_go mu_g38 (k := 2) (f1 := (122, [(4, .inl (nI (la H4))), (3, .inl (nI k)), (0, .inr (.inr (some 81))), (1, .inr (.inr (some t))), (2, .inl (nI n))], [.inl (mu_i G4 81 2), .inr (.inr (some t))], G4)) (C := [mu_is G4 (some 81) 4]) rfl (show mu_is G4 (some 81) 4 from hT4.1.1.is rfl) ?_
            rw [hT4.2.2.2.2.2.2.1]
            refine mw_go mu_g38 (k := 1) (f1 := (123, [(4, .inl (nI (la H4))), (3, .inl (nI k)), (0, .inr (.inr (some 81))), (1, .inr (.inr (some t))), (2, .inl (nI n))], [.inl (mu_i G4 t (nI (la G4)).toNatClampNeg)], G4)) (C := [mu_isr G4 (some t) 101, vp_in (nI (la G4)) (mu_n G4 t)]) rfl (show (mu_isr G4 (some t) 101) ∧ (vp_in (nI (la G4)) (mu_n G4 t)) from ⟨hT4.2.2.1.r, (by have := hT4.2.2.2.2.1; exact vp_in_nI (by omega) (by omega))⟩) ?_
            refine mw_cIe (fun _ => rfl) trivial (lx_digit_ok (d := (d + 6)) (mu_i G4 t (nI (la G4)).toNatClampNeg)) ?_
            refine mw_if (P := (lx_digit (mu_i G4 t (nI (la G4)).toNatClampNeg)) = 0) (a := 136) (b := 129) (fun _ => rfl) trivial (fun h9 => ?_) (fun h9 => ?_)
            · -- 136: (lx_digit (mu_i G4 t (nI (la G4)).toNatClampNeg)) = 0
              refine mw_go mu_g38 (k := 1) (f1 := (137, [(4, .inl (nI (la H4))), (3, .inl (nI k)), (0, .inr (.inr (some 81))), (1, .inr (.inr (some t))), (2, .inl (nI n))], [.inr (.inr (some 81))], G4)) (C := []) rfl trivial ?_
              refine mw_cV (fun _ => rfl) (show mu_is G4 (some 81) 4 from hT4.1.1.is rfl) (ls_sign (d := d) hT4 hlt) (fun H10 q10 => ?_)
              obtain ⟨v1, v2, v3⟩ := q10
              obtain ⟨v4, v5, v6, v7⟩ := lo.tosf hT4.1.1 v2 (by decide)
              have hb : sc t n H H10 k 1 := scT.step (e' := 1) v1 v4 (by omega) (by omega) (by omega)
              have hbl : k + 1 ≤ la H10 := by omega
              have plb : pl n k H10 := plT.via v4
              refine mw_go mu_g38 (k := 2) (f1 := (144, [(4, .inl (nI (la H4))), (3, .inl (nI k)), (0, .inr (.inr (some 81))), (1, .inr (.inr (some t))), (2, .inl (nI n))], [.inr (.inr (mu_r H10 81 5))], H10)) (C := [mu_is H10 (some 81) 4]) rfl (show mu_is H10 (some 81) 4 from v1.1.1.is rfl) ?_
              rw [(v1.1.1.r (p := 81) (j := 5) (q := 82) rfl)]
              refine mw_go mu_g38 (k := 6) (f1 := (155, [(4, .inl (nI (la H4))), (3, .inl (nI k)), (0, .inr (.inr (some 81))), (1, .inr (.inr (some t))), (2, .inl (nI n))], [.inl (0 : Int32), .inl (nI (la H4)), .inl (mu_i H10 81 4), .inl (mu_i H10 81 3), .inr (.inr (some 82))], H10)) (C := [mu_is H10 (some 81) 4, mu_is H10 (some 81) 4]) rfl (show (mu_is H10 (some 81) 4) ∧ (mu_is H10 (some 81) 4) from ⟨v1.1.1.is rfl, v1.1.1.is rfl⟩) ?_
              refine mw_cI (fun _ => rfl) (show mu_is H10 (some 82) 10 from v1.1.1.is rfl) (gi_put_ok (d := (d + 4)) hb.1.1.1 (r := 82) (W := 3) rfl (by have := hb.2.2.2.2.2.2.1; omega) (mu_i H10 81 3) (mu_i H10 81 4) (nI (la H4)) (0 : Int32)) (fun x11 H11 q11 => ?_)
              obtain ⟨-, qg, qq⟩ := q11
              obtain ⟨p1, p2, p3, p4⟩ := hb.put (by decide) (by omega) qg qq
              have pl6 : pl n (k + 1) H11 := plb.put hb.2.2.2.2.2.2.1 qq hla1
              refine mw_go mu_g38 (k := 3) (f1 := (34, [(3, .inl ((nI k) + 1)), (4, .inl (nI (la H4))), (0, .inr (.inr (some 81))), (1, .inr (.inr (some t))), (2, .inl (nI n))], [], H11)) (C := []) rfl trivial ?_
              rw [nI_1]
              exact mw_sub (by simp) (ih (k + 1, H11) ⟨p1, Or.inr ⟨(show 1 ≤ k + 1 by omega), (show cel H11 82 ((k + 1 - 1) * 3) = mu_i H11 81 3 from by rw [Nat.add_sub_cancel, p2, p4])⟩, Or.inr (Or.inr (show k + 1 ≤ la H11 by omega)), pl6⟩ (by show n + 2 - (k + 1) < n + 2 - k; omega))
            · -- 129: not (lx_digit (mu_i G4 t (nI (la G4)).toNatClampNeg)) = 0
              refine mw_go mu_g38 (k := 1) (f1 := (130, [(4, .inl (nI (la H4))), (3, .inl (nI k)), (0, .inr (.inr (some 81))), (1, .inr (.inr (some t))), (2, .inl (nI n))], [.inr (.inr (some 81))], G4)) (C := []) rfl trivial ?_
              refine mw_cV (fun _ => rfl) (show mu_is G4 (some 81) 4 from hT4.1.1.is rfl) (ls_num (d := (d + 5)) hT4 hlt (by rw [← hcl]; exact h9)) (fun H12 q12 => ?_)
              obtain ⟨v1, v2, v3⟩ := q12
              obtain ⟨v4, v5, v6, v7⟩ := lo.tosf hT4.1.1 v2 (by decide)
              have hb : sc t n H H12 k 1 := scT.step (e' := 1) v1 v4 (by omega) (by omega) (by omega)
              have hbl : k + 1 ≤ la H12 := by omega
              have plb : pl n k H12 := plT.via v4
              refine mw_go mu_g38 (k := 1) (f1 := (140, [(4, .inl (nI (la H4))), (3, .inl (nI k)), (0, .inr (.inr (some 81))), (1, .inr (.inr (some t))), (2, .inl (nI n))], [], H12)) (C := []) rfl trivial ?_
              refine mw_go mu_g38 (k := 2) (f1 := (144, [(4, .inl (nI (la H4))), (3, .inl (nI k)), (0, .inr (.inr (some 81))), (1, .inr (.inr (some t))), (2, .inl (nI n))], [.inr (.inr (mu_r H12 81 5))], H12)) (C := [mu_is H12 (some 81) 4]) rfl (show mu_is H12 (some 81) 4 from v1.1.1.is rfl) ?_
              rw [(v1.1.1.r (p := 81) (j := 5) (q := 82) rfl)]
              refine mw_go mu_g38 (k := 6) (f1 := (155, [(4, .inl (nI (la H4))), (3, .inl (nI k)), (0, .inr (.inr (some 81))), (1, .inr (.inr (some t))), (2, .inl (nI n))], [.inl (0 : Int32), .inl (nI (la H4)), .inl (mu_i H12 81 4), .inl (mu_i H12 81 3), .inr (.inr (some 82))], H12)) (C := [mu_is H12 (some 81) 4, mu_is H12 (some 81) 4]) rfl (show (mu_is H12 (some 81) 4) ∧ (mu_is H12 (some 81) 4) from ⟨v1.1.1.is rfl, v1.1.1.is rfl⟩) ?_
              refine mw_cI (fun _ => rfl) (show mu_is H12 (some 82) 10 from v1.1.1.is rfl) (gi_put_ok (d := (d + 4)) hb.1.1.1 (r := 82) (W := 3) rfl (by have := hb.2.2.2.2.2.2.1; omega) (mu_i H12 81 3) (mu_i H12 81 4) (nI (la H4)) (0 : Int32)) (fun x13 H13 q13 => ?_)
              obtain ⟨-, qg, qq⟩ := q13
              obtain ⟨p1, p2, p3, p4⟩ := hb.put (by decide) (by omega) qg qq
              have pl6 : pl n (k + 1) H13 := plb.put hb.2.2.2.2.2.2.1 qq hla1
              refine mw_go mu_g38 (k := 3) (f1 := (34, [(3, .inl ((nI k) + 1)), (4, .inl (nI (la H4))), (0, .inr (.inr (some 81))), (1, .inr (.inr (some t))), (2, .inl (nI n))], [], H13)) (C := []) rfl trivial ?_
              rw [nI_1]
              exact mw_sub (by simp) (ih (k + 1, H13) ⟨p1, Or.inr ⟨(show 1 ≤ k + 1 by omega), (show cel H13 82 ((k + 1 - 1) * 3) = mu_i H13 81 3 from by rw [Nat.add_sub_cancel, p2, p4])⟩, Or.inr (Or.inr (show k + 1 ≤ la H13 by omega)), pl6⟩ (by show n + 2 - (k + 1) < n + 2 - k; omega))
          · -- 107: not (lx_letter (mu_i G4 t (nI (la G4)).toNatClampNeg)) = 0
            refine mw_go mu_g38 (k := 1) (f1 := (108, [(4, .inl (nI (la H4))), (3, .inl (nI k)), (0, .inr (.inr (some 81))), (1, .inr (.inr (some t))), (2, .inl (nI n))], [.inr (.inr (some 81))], G4)) (C := []) rfl trivial ?_
            refine mw_cV (fun _ => rfl) (show mu_is G4 (some 81) 4 from hT4.1.1.is rfl) (ls_word (d := (d + 1)) hT4 hlt (by rw [← hcl]; exact h7) (by have := scT.2.2.2.2.2.2.2.2.2; omega) (by have := scT.2.2.2.2.2.2.2.2.1; omega)) (fun H14 q14 => ?_)
            obtain ⟨v1, v2, v3, v4, v5⟩ := q14
            have hb : sc t n H H14 k 1 := scT.step (e' := 1) v1 v2 (by omega) (by omega) v5
            have hbl : k + 1 ≤ la H14 := by omega
            have plb : pl n k H14 := plT.via v2
            refine mw_go mu_g38 (k := 1) (f1 := (140, [(4, .inl (nI (la H4))), (3, .inl (nI k)), (0, .inr (.inr (some 81))), (1, .inr (.inr (some t))), (2, .inl (nI n))], [], H14)) (C := []) rfl trivial ?_
            refine mw_go mu_g38 (k := 2) (f1 := (144, [(4, .inl (nI (la H4))), (3, .inl (nI k)), (0, .inr (.inr (some 81))), (1, .inr (.inr (some t))), (2, .inl (nI n))], [.inr (.inr (mu_r H14 81 5))], H14)) (C := [mu_is H14 (some 81) 4]) rfl (show mu_is H14 (some 81) 4 from v1.1.1.is rfl) ?_
            rw [(v1.1.1.r (p := 81) (j := 5) (q := 82) rfl)]
            refine mw_go mu_g38 (k := 6) (f1 := (155, [(4, .inl (nI (la H4))), (3, .inl (nI k)), (0, .inr (.inr (some 81))), (1, .inr (.inr (some t))), (2, .inl (nI n))], [.inl (0 : Int32), .inl (nI (la H4)), .inl (mu_i H14 81 4), .inl (mu_i H14 81 3), .inr (.inr (some 82))], H14)) (C := [mu_is H14 (some 81) 4, mu_is H14 (some 81) 4]) rfl (show (mu_is H14 (some 81) 4) ∧ (mu_is H14 (some 81) 4) from ⟨v1.1.1.is rfl, v1.1.1.is rfl⟩) ?_
            refine mw_cI (fun _ => rfl) (show mu_is H14 (some 82) 10 from v1.1.1.is rfl) (gi_put_ok (d := (d + 4)) hb.1.1.1 (r := 82) (W := 3) rfl (by have := hb.2.2.2.2.2.2.1; omega) (mu_i H14 81 3) (mu_i H14 81 4) (nI (la H4)) (0 : Int32)) (fun x15 H15 q15 => ?_)
            obtain ⟨-, qg, qq⟩ := q15
            obtain ⟨p1, p2, p3, p4⟩ := hb.put (by decide) (by omega) qg qq
            have pl6 : pl n (k + 1) H15 := plb.put hb.2.2.2.2.2.2.1 qq hla1
            refine mw_go mu_g38 (k := 3) (f1 := (34, [(3, .inl ((nI k) + 1)), (4, .inl (nI (la H4))), (0, .inr (.inr (some 81))), (1, .inr (.inr (some t))), (2, .inl (nI n))], [], H15)) (C := []) rfl trivial ?_
            rw [nI_1]
            exact mw_sub (by simp) (ih (k + 1, H15) ⟨p1, Or.inr ⟨(show 1 ≤ k + 1 by omega), (show cel H15 82 ((k + 1 - 1) * 3) = mu_i H15 81 3 from by rw [Nat.add_sub_cancel, p2, p4])⟩, Or.inr (Or.inr (show k + 1 ≤ la H15 by omega)), pl6⟩ (by show n + 2 - (k + 1) < n + 2 - k; omega))
        · -- 83: not (nI (la G4)) < (nI n)
          refine mw_go mu_g38 (k := 4) (f1 := (140, [(4, .inl (nI (la H4))), (3, .inl (nI k)), (0, .inr (.inr (some 81))), (1, .inr (.inr (some t))), (2, .inl (nI n))], [], (mu_si G4 81 3 (114 : Int32)))) (C := [mu_is G4 (some 81) 4]) rfl (show mu_is G4 (some 81) 4 from hT4.1.1.is rfl) ?_
          have lo5 : lo [3] G4 (mu_si G4 81 3 (114 : Int32)) := lo.si (lo.refl [3] G4) (by decide)
          obtain ⟨v1, v2⟩ := hT4.lo lo5 (by decide) (by decide) (b := la G4) hT4.2.2.2.2.2.2.1 hT4.2.2.2.2.2.2.2
          obtain ⟨v4, v5, v6, v7⟩ := lo.tosf hT4.1.1 lo5 (by decide)
          have hb : sc t n H (mu_si G4 81 3 (114 : Int32)) k 1 := scT.step (e' := 1) v1 v4 (by omega) (by omega) (by omega)
          have hkd : mu_i (mu_si G4 81 3 (114 : Int32)) 81 3 = 114 := rfl
          have plb : pl n k (mu_si G4 81 3 (114 : Int32)) := plT.via v4
          generalize (mu_si G4 81 3 (114 : Int32)) = G5 at v1 v2 v4 v5 v6 v7 hb hkd plb ⊢
          refine mw_go mu_g38 (k := 2) (f1 := (144, [(4, .inl (nI (la H4))), (3, .inl (nI k)), (0, .inr (.inr (some 81))), (1, .inr (.inr (some t))), (2, .inl (nI n))], [.inr (.inr (mu_r G5 81 5))], G5)) (C := [mu_is G5 (some 81) 4]) rfl (show mu_is G5 (some 81) 4 from hb.1.1.1.is rfl) ?_
          rw [(hb.1.1.1.r (p := 81) (j := 5) (q := 82) rfl)]
          refine mw_go mu_g38 (k := 6) (f1 := (155, [(4, .inl (nI (la H4))), (3, .inl (nI k)), (0, .inr (.inr (some 81))), (1, .inr (.inr (some t))), (2, .inl (nI n))], [.inl (0 : Int32), .inl (nI (la H4)), .inl (mu_i G5 81 4), .inl (mu_i G5 81 3), .inr (.inr (some 82))], G5)) (C := [mu_is G5 (some 81) 4, mu_is G5 (some 81) 4]) rfl (show (mu_is G5 (some 81) 4) ∧ (mu_is G5 (some 81) 4) from ⟨hb.1.1.1.is rfl, hb.1.1.1.is rfl⟩) ?_
          refine mw_cI (fun _ => rfl) (show mu_is G5 (some 82) 10 from hb.1.1.1.is rfl) (gi_put_ok (d := (d + 4)) hb.1.1.1 (r := 82) (W := 3) rfl (by have := hb.2.2.2.2.2.2.1; omega) (mu_i G5 81 3) (mu_i G5 81 4) (nI (la H4)) (0 : Int32)) (fun x16 H16 q16 => ?_)
          obtain ⟨-, qg, qq⟩ := q16
          obtain ⟨p1, p2, p3, p4⟩ := hb.put (by decide) (by omega) qg qq
          have pl6 : pl n (k + 1) H16 := plb.put hb.2.2.2.2.2.2.1 qq hla1
          refine mw_go mu_g38 (k := 3) (f1 := (34, [(3, .inl ((nI k) + 1)), (4, .inl (nI (la H4))), (0, .inr (.inr (some 81))), (1, .inr (.inr (some t))), (2, .inl (nI n))], [], H16)) (C := []) rfl trivial ?_
          rw [nI_1]
          exact mw_sub (by simp) (ih (k + 1, H16) ⟨p1, Or.inr ⟨(show 1 ≤ k + 1 by omega), (show cel H16 82 ((k + 1 - 1) * 3) = mu_i H16 81 3 from by rw [Nat.add_sub_cancel, p2, p4])⟩, Or.inl (show mu_i H16 81 3 = 114 from p4.trans hkd), pl6⟩ (by show n + 2 - (k + 1) < n + 2 - k; omega))
end LexScan4
section ParseText2
variable {H : mu_H} {d t n m : Nat}
theorem pb_parse (hg : gi H) (hm : m = 2 ∨ m = 41) (h0 : mu_r H 0 0 = some t) (hn : n ≤ mu_n H t) (hn2 : n ≤ 80000) : mu_TI (mu_D (d + 10)) 35 [.inr (.inr (some 80)), .inr (.inr (some m)), .inr (.inr (some t)), .inl (nI n)] H (fun x H1 => pr m t n H H1 ∧ ((x = -1 ∧ CT (ab m H1) ∧ CE (ab m H1)) ∨ ∃ p, p ≤ n ∧ x = nI p) ∧ ∀ j, 11 ≤ j → j < 18 → gi_sz H1 (m + 1 + 2 * j) = 0) := by
  have gA : gi (mu_sr H 80 2 (some m)) := hg.sr rfl rfl (by decide)
  have kA : gk (pr_S m) H (mu_sr H 80 2 (some m)) := gk.sr hg (k := 7) rfl rfl (by decide) (decide_eq_true (Or.inl rfl)) (fun q hq => by cases hq; exact Or.inl (by omega))
  have cA : ∀ r, r ≠ 80 → gi_cap (mu_sr H 80 2 (some m)) r = gi_cap H r := fun r hr => by
    unfold gi_cap
    rw [mu_r_sr, if_neg (fun z => hr z.1)]
    rfl
  have rA : ∀ p j, ¬ (p = 80 ∧ j = 2) → mu_r (mu_sr H 80 2 (some m)) p j = mu_r H p j := fun p j hn => by rw [mu_r_sr, if_neg hn]
  have mA : mu_r (mu_sr H 80 2 (some m)) 80 2 = some m := by rw [mu_r_sr, if_pos ⟨rfl, rfl⟩]
  refine mu_meth (M := mu_m35) rfl rfl ?_
  refine mw_ht (mu_fn_of (show [0, 1, 2, 3].Nodup by decide)) ?_
  refine mw_go mu_g35 (k := 5) (f1 := (9, [(0, .inr (.inr (some 80))), (1, .inr (.inr (some m))), (2, .inr (.inr (some t))), (3, .inl (nI n))], [.inr (.inr (mu_r (mu_sr H 80 2 (some m)) 80 2))], mu_sr H 80 2 (some m))) (C := [mu_is H (some 80) 7, mu_is (mu_sr H 80 2 (some m)) (some 80) 7]) rfl ⟨hg.is rfl, gA.is rfl⟩ ?_
  rw [mA]
  generalize mu_sr H 80 2 (some m) = A at gA kA cA rA mA ⊢
  refine mw_cV (fun _ => rfl) (show mu_is A (some m) 6 from gi_im gA hm) (md_clear (d := d + 7) gA hm) (fun C q => ?_)
  obtain ⟨gC, kC, zC, yC, cC, rC⟩ := q
  have kC' : gk (pr_S m) A C := kC.mono (fun p hp => decide_eq_true (Or.inr (Or.inr (Or.inr (Or.inr (Or.inr (of_decide_eq_true hp)))))))
  refine mw_go mu_g35 (k := 2) (f1 := (16, [(0, .inr (.inr (some 80))), (1, .inr (.inr (some m))), (2, .inr (.inr (some t))), (3, .inl (nI n))], [.inr (.inr (mu_r C 80 1))], C)) (C := [mu_is C (some 80) 7]) rfl (show mu_is C (some 80) 7 from gC.is rfl) ?_
  rw [gC.r (p := 80) (j := 1) (q := 89) rfl]
  refine mw_cVe (fun _ => rfl) (show mu_is C (some 89) 10 from gC.is rfl) (rw_clear_ok (d := d + 8) (gC.w (r := 89) (W := 2) rfl)) ?_
  obtain ⟨gD, zD, yD⟩ := gC.size (r := 89) (W := 2) (k := 0) rfl (Nat.zero_le _)
  have gD : gi (mu_si C 89 2 0) := gD
  have zD : gi_sz (mu_si C 89 2 0) 89 = 0 := zD
  have yD : ∀ r', r' ≠ 89 → gi_sz (mu_si C 89 2 0) r' = gi_sz C r' := yD
  have kD : gk (pr_S m) C (mu_si C 89 2 0) := gk.si gC (k := 10) rfl (decide_eq_true (by omega))
  have cD : ∀ r, gi_cap (mu_si C 89 2 0) r = gi_cap C r := fun _ => rfl
  have rD : ∀ p j, mu_r (mu_si C 89 2 0) p j = mu_r C p j := fun _ _ => rfl
  generalize mu_si C 89 2 0 = D at gD zD yD kD cD rD ⊢
  have kHD : gk (pr_S m) H D := (kA.trans kC').trans kD
  refine mw_go mu_g35 (k := 2) (f1 := (23, [(0, .inr (.inr (some 80))), (1, .inr (.inr (some m))), (2, .inr (.inr (some t))), (3, .inl (nI n))], [.inr (.inr (mu_r D 80 0))], D)) (C := [mu_is D (some 80) 7]) rfl (show mu_is D (some 80) 7 from gD.is rfl) ?_
  rw [gD.r (p := 80) (j := 0) (q := 81) rfl]
  refine mw_go mu_g35 (k := 2) (f1 := (25, [(0, .inr (.inr (some 80))), (1, .inr (.inr (some m))), (2, .inr (.inr (some t))), (3, .inl (nI n))], [.inl (nI n), .inr (.inr (some t)), .inr (.inr (some 81))], D)) (C := []) rfl trivial ?_
  have tD : mu_r D 0 0 = some t := by rw [rD, rC, rA 0 0 (fun z => by have := z.1; omega)]; exact h0
  have htH : t < mu_z H := by have := hg.2.2.2.2.2.2.2.1.1.2.1; rw [h0] at this; exact this
  have nD : n ≤ mu_n D t := by rw [(kHD.2.1 t htH).2]; exact hn
  refine mw_cV (fun _ => rfl) (show mu_is D (some 81) 4 from gD.is rfl) (ls_scan2 (d := d + 1) gD tD nD (by omega)) (fun E q => ?_)
  obtain ⟨gE, kE, ⟨tE, rE⟩, ⟨zE, zE2, zE3⟩, n7E, c86E, c82E, plE⟩ := q
  have s80E := kE.2.2.1 80 7 rfl rfl
  have kE' : lk (pr_S m) D E := kE.mono (fun p hp => decide_eq_true (by have := of_decide_eq_true hp; omega))
  have rowE : ∀ r W, gi_w r = some W → r ≠ 82 → r ≠ 86 → gi_sz E r = gi_sz D r ∧ gi_cap E r = gi_cap D r := fun r W hr h82 h86 => by
    obtain ⟨hr1, -, -, hrk, hro⟩ := gi_w_ok hr
    have hS : ls_S r = false := decide_eq_false (fun z => by
      rcases z with z | z | z
      · rw [z] at hr; cases hr
      · exact h82 z
      · exact h86 z)
    have hs := kE.2.2.1 r 10 hrk hS
    refine ⟨by unfold gi_sz; rw [hs.i], ?_⟩
    unfold gi_cap
    rw [hs.r, (kE.2.1 _ (gD.o hro).2.1).2]
  refine mw_go mu_g35 (k := 4) (f1 := (34, [(0, .inr (.inr (some 80))), (1, .inr (.inr (some m))), (2, .inr (.inr (some t))), (3, .inl (nI n))], [.inr (.inr (some 80))], mu_si E 80 3 (-1 : Int32))) (C := [mu_is E (some 80) 7]) rfl (show mu_is E (some 80) 7 from gE.is rfl) ?_
  have gF : gi (mu_si E 80 3 (-1 : Int32)) := gE.si (k := 7) rfl rfl
  have kF : gk (pr_S m) E (mu_si E 80 3 (-1 : Int32)) := gk.si gE (k := 7) rfl (decide_eq_true (Or.inl rfl))
  have h0F : ps0 m (mu_si E 80 3 (-1 : Int32)) := by
    refine ⟨gF, hm, ?_, ?_, ?_, rfl⟩
    · show mu_r E 80 2 = some m
      rw [s80E.r, rD, rC, mA]
    · show gi_sz E 89 = 0
      rw [(rowE 89 2 rfl (by decide) (by decide)).1, zD]
    · show 1 ≤ gi_sz E 82 ∧ ¬ cel (mu_si E 80 3 (-1 : Int32)) 82 ((gi_sz E 82 - 1) * 3) < 114
      refine ⟨zE, ?_⟩
      show ¬ mu_i (mu_si E 80 3 (-1 : Int32)) (mu_p (mu_r E 82 1)) ((gi_sz E 82 - 1) * 3) < 114
      rw [mu_i_si, if_neg (fun z => ((gE.cell (r := 82) (W := 3) rfl).1 80 7 rfl).symm z.1)]
      exact zE3
  refine mw_cV (fun _ => rfl) (show mu_is (mu_si E 80 3 (-1 : Int32)) (some 80) 7 from gF.is rfl) (pa_adv0 (d := d + 7) h0F) (fun G q => ?_)
  obtain ⟨pG, kG, aG, zG, cG, rG⟩ := q
  have kG' : gk (pr_S m) (mu_si E 80 3 (-1 : Int32)) G := kG.mono (fun p hp => decide_eq_true (by have := of_decide_eq_true hp; omega))
  have pK : ps m (mu_si G 80 6 (0 : Int32)) := pG.si (by decide) (by decide)
  have kK : gk (pr_S m) G (mu_si G 80 6 (0 : Int32)) := gk.si pG.1 (k := 7) rfl (decide_eq_true (Or.inl rfl))
  have tz : ∀ j, j < 18 → gi_sz (mu_si G 80 6 (0 : Int32)) (m + 1 + 2 * j) = 0 := fun j hj => by
    have e1 : gi_sz (mu_si G 80 6 (0 : Int32)) (m + 1 + 2 * j) = gi_sz G (m + 1 + 2 * j) := by
      unfold gi_sz
      rw [mu_i_si, if_neg (fun z => by omega)]
    rw [e1, zG _ (by omega)]
    have e2 : gi_sz (mu_si E 80 3 (-1 : Int32)) (m + 1 + 2 * j) = gi_sz E (m + 1 + 2 * j) := by
      unfold gi_sz
      rw [mu_i_si, if_neg (fun z => by omega)]
    rw [e2, (rowE _ _ (ps_wm hm (by omega)) (by omega) (by omega)).1, yD _ (by omega)]
    exact zC j hj
  have z89K : gi_sz (mu_si G 80 6 (0 : Int32)) 89 = 0 := (zG 89 (by decide)).trans h0F.2.2.2.1
  have z82K : gi_sz (mu_si G 80 6 (0 : Int32)) 82 = gi_sz E 82 := zG 82 (by decide)
  have a3K : mu_i (mu_si G 80 6 (0 : Int32)) 80 3 = nI 0 := aG
  have tbK : tb (mu_si G 80 6 (0 : Int32)) 82 3 = tb E 82 3 := (gk.tb (gk.si (S := fun p => Nat.beq p 80) pG.1 (p := 80) (k := 7) rfl rfl) (r := 82) (W := 3) rfl rfl).trans ((gk.tb kG (r := 82) (W := 3) rfl (decide_eq_false (by omega))).trans (gk.tb (gk.si (S := fun p => Nat.beq p 80) gE (p := 80) (k := 7) rfl rfl) (r := 82) (W := 3) rfl rfl))
  have m6K : mu_i (mu_si G 80 6 (0 : Int32)) 80 6 = 0 := rfl
  have potK : ps_pot m (mu_si G 80 6 (0 : Int32)) ≤ 12 * n := by
    have t0 := tz 0 (by decide)
    have t1 := tz 1 (by decide)
    have t2 := tz 2 (by decide)
    have t3 := tz 3 (by decide)
    have t4 := tz 4 (by decide)
    have t5 := tz 5 (by decide)
    have t6 := tz 6 (by decide)
    have t7 := tz 7 (by decide)
    have t8 := tz 8 (by decide)
    have t9 := tz 9 (by decide)
    have t10 := tz 10 (by decide)
    rw [show m + 1 + 2 * 0 = m + 1 by omega] at t0
    rw [show m + 1 + 2 * 1 = m + 3 by omega] at t1
    rw [show m + 1 + 2 * 2 = m + 5 by omega] at t2
    rw [show m + 1 + 2 * 3 = m + 7 by omega] at t3
    rw [show m + 1 + 2 * 4 = m + 9 by omega] at t4
    rw [show m + 1 + 2 * 5 = m + 11 by omega] at t5
    rw [show m + 1 + 2 * 6 = m + 13 by omega] at t6
    rw [show m + 1 + 2 * 7 = m + 15 by omega] at t7
    rw [show m + 1 + 2 * 8 = m + 17 by omega] at t8
    rw [show m + 1 + 2 * 9 = m + 19 by omega] at t9
    rw [show m + 1 + 2 * 10 = m + 21 by omega] at t10
    unfold ps_pot
    rw [t0, t1, t2, t3, t4, t5, t6, t7, t8, t9, t10, z89K, z82K, a3K, m6K, show ps_mp 0 = 0 from rfl]
    omega
  have kHK : lk (pr_S m) H (mu_si G 80 6 (0 : Int32)) := by
    have r7D : mu_r D 81 7 = mu_r H 81 7 := by rw [rD, rC, rA 81 7 (fun z => by have := z.1; omega)]
    refine (((lk.of kHD r7D).trans kE').trans (lk.of kF rfl)).trans ((lk.of kG' (rG 81 7)).trans (lk.of kK rfl))
  have capK : ∀ r W, gi_w r = some W → r ≠ 82 → r ≠ 86 → gi_cap (mu_si G 80 6 (0 : Int32)) r = gi_cap H r := fun r W hr h82 h86 => by
    have hr80 : r ≠ 80 := fun e => by rw [e] at hr; cases hr
    have e1 : gi_cap (mu_si G 80 6 (0 : Int32)) r = gi_cap G r := rfl
    have e2 : gi_cap (mu_si E 80 3 (-1 : Int32)) r = gi_cap E r := rfl
    rw [e1, cG, e2, (rowE r W hr h82 h86).2, cD, cC, cA r hr80]
  have rK : ∀ j, j ≠ 7 → j ≠ 0 → mu_r (mu_si G 80 6 (0 : Int32)) 81 j = mu_r H 81 j := fun j h7 h0 => by
    show mu_r G 81 j = _
    rw [rG]
    show mu_r E 81 j = _
    rw [rE j h7 h0, rD, rC, rA 81 j (fun z => by have := z.1; omega)]
  have tK : mu_r (mu_si G 80 6 (0 : Int32)) 81 0 = some t := (rG 81 0).trans tE
  have e7K : lt7 (mu_si G 80 6 (0 : Int32)) = lt7 E := by show mu_p (mu_r G 81 7) = _; rw [rG]; rfl
  have n7z : lt7 E < mu_z E := (lw.g7 gE).2.1
  have n7K : mu_n (mu_si G 80 6 (0 : Int32)) (lt7 (mu_si G 80 6 (0 : Int32))) = mu_n E (lt7 E) := by rw [e7K]; exact (kG.2.1 _ n7z).2
  have n7D : mu_n D (lt7 D) = mu_n H (lt7 H) := by
    have : lt7 D = lt7 H := by unfold lt7; rw [rD, rC, rA 81 7 (fun z => by have := z.1; omega)]
    rw [this]
    exact (kHD.2.1 _ (lw.g7 hg).2.1).2
  have c86K : gi_cap (mu_si G 80 6 (0 : Int32)) 86 = gi_cap E 86 := cG 86
  have c82K : gi_cap (mu_si G 80 6 (0 : Int32)) 82 = gi_cap E 82 := cG 82
  have c86D : gi_cap D 86 = gi_cap H 86 := by rw [cD, cC, cA 86 (by decide)]
  have c82D : gi_cap D 82 = gi_cap H 82 := by rw [cD, cC, cA 82 (by decide)]
  refine mw_go mu_g35 (k := 7) (f1 := (48, [(5, .inl (0 : Int32)), (4, .inl (1 : Int32)), (0, .inr (.inr (some 80))), (1, .inr (.inr (some m))), (2, .inr (.inr (some t))), (3, .inl (nI n))], [], mu_si G 80 6 (0 : Int32))) (C := [mu_is G (some 80) 7]) rfl (show mu_is G (some 80) 7 from pG.1.is rfl) ?_
  generalize mu_si G 80 6 (0 : Int32) = K at pK kK tz z89K z82K a3K tbK m6K potK kHK capK rK tK e7K n7K c86K c82K ⊢
  refine mw_sub (L' := [(4, .inl (1 : Int32)), (5, .inl (nI 0)), (0, .inr (.inr (some 80)))]) (by simp [show nI 0 = 0 from rfl]) ?_
  have zK : ∀ j, j < 11 → (ab m K j).1 = 0 := fun j hj => by
    have e1 : (ab m K j).1 = gi_sz K (m + 1 + 2 * j) := by
      show (if j < 13 then tb K (rr m j) (wd j) else (0, fun _ _ => 0)).1 = _
      rw [if_pos (by omega)]
      unfold rr
      rw [if_neg (by omega), if_neg (by omega)]
      rfl
    rw [e1]
    exact tz j (by omega)
  have hPC : PC m K := PC_0 m6K rfl (CT_empty zK) (by rw [zK 0 (by decide)]; decide) z89K (Or.inl ⟨rfl, Or.inr zK⟩)
  refine pb_main (d := d) (B := 12 * n) pK (by omega) potK 1 (k0 := 0) (by decide) (Or.inr rfl) (fun _ => hPC) (fun x H1 w1 w2 w3 w4 => ⟨_, H1, rfl, ⟨w1, ?_, ⟨?_, ?_⟩, by omega, fun j hj => ?_, ?_, ?_, ?_, ?_⟩, ?_, fun j h11 h18 => ?_⟩)
  · exact kHK.trans ((lk.of w2.1 (w2.2.1 7)).mono (fun p hp => decide_eq_true (by have := of_decide_eq_true hp; omega)))
  · rw [w2.2.1]; exact tK
  · intro j h7 h0
    rw [w2.2.1]; exact rK j h7 h0
  · have := (w2.2.2.1 j hj).2
    rw [capK _ _ (ps_wm hm hj) (by omega) (by omega)] at this
    exact this
  · have := w2.2.2.2.1
    rw [capK 89 2 rfl (by decide) (by decide)] at this
    exact this
  · have e7 : lt7 H1 = lt7 K := by unfold lt7; rw [w2.2.1]
    rw [e7, show mu_n H1 (lt7 K) = mu_n K (lt7 K) from (w2.1.2.1 _ (lw.g7 pK.1).2.1).2, n7K]
    omega
  · rw [w2.2.2.2.2, c86K]
    omega
  · have hs := w2.1.obj (p := 82) (k := 10) rfl (decide_eq_false (by omega))
    have e1 : gi_cap H1 82 = gi_cap K 82 := by unfold gi_cap; rw [hs.r, (w2.1.2.1 _ (pK.1.o (p := 82) (j := 1) rfl).2.1).2]
    rw [e1, c82K]
    omega
  · rcases w4 with z | z
    · exact Or.inl z
    · right
      have tbH : tb H1 82 3 = tb E 82 3 := (gk.tb w2.1 (r := 82) (W := 3) rfl (decide_eq_false (by omega))).trans tbK
      obtain ⟨-, -, -, -, -, i, hi1, hi2, -⟩ := w1
      have hiE : i < gi_sz E 82 := by
        have e1 : (tb H1 82 3).1 = (tb E 82 3).1 := by rw [tbH]
        have e2 : gi_sz H1 82 = gi_sz E 82 := e1
        omega
      obtain ⟨p, hp, e⟩ := plE i hiE
      refine ⟨p, hp, ?_⟩
      rw [z, hi1, rw_get_tb (H := H1) (r := 82) (W := 3) (by omega) rfl, tbH]
      show (if i < gi_sz E 82 ∧ 2 < 3 then cel E 82 (i * 3 + 2) else 0) = nI p
      rw [if_pos ⟨hiE, by decide⟩]
      exact e
  · have hs := w2.1.obj (p := m + 1 + 2 * j) (k := 10) (gi_w_ok (ps_wm hm (show j < 19 by omega))).2.2.2.1 (decide_eq_false (by omega))
    have e1 : gi_sz H1 (m + 1 + 2 * j) = gi_sz K (m + 1 + 2 * j) := by unfold gi_sz; rw [hs.i]
    rw [e1]
    exact tz j h18
end ParseText2
