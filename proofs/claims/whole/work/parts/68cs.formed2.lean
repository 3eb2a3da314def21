/-! The pure parser: each step gives well formed trees -/
section Wfs
variable {T : Nat → Int32} {n : Nat} {P : Nat → Nat → List Tre → Tok → PR} {dep : Nat} {cs : List Tre} {t : Tok}
theorem csz_20 (h : alx (lxz 1 dep) cs ∧ 1 ≤ cs.length ∧ (2 ≤ cs.length ∨ ¬ tis T t (txt 1) = 0)) : csz T 20 dep cs t := ⟨fun _ => h, fun e => absurd e (by decide), fun e => absurd e (by decide), fun e => absurd e (by decide), fun e => absurd e (by decide), fun e => absurd e (by decide), fun e => absurd e (by decide), fun e => absurd e (by decide), fun e => absurd e (by decide), fun e => absurd e (by decide)⟩
theorem csz_21 (h : alx (lxz 2 dep) cs ∧ 1 ≤ cs.length ∧ (2 ≤ cs.length ∨ ¬ tis T t (txt 2) = 0)) : csz T 21 dep cs t := ⟨fun e => absurd e (by decide), fun _ => h, fun e => absurd e (by decide), fun e => absurd e (by decide), fun e => absurd e (by decide), fun e => absurd e (by decide), fun e => absurd e (by decide), fun e => absurd e (by decide), fun e => absurd e (by decide), fun e => absurd e (by decide)⟩
theorem csz_23 (h : alx (lxz 4 dep) cs ∧ 1 ≤ cs.length ∧ (2 ≤ cs.length ∨ ¬ tis T t (txt 19) = 0)) : csz T 23 dep cs t := ⟨fun e => absurd e (by decide), fun e => absurd e (by decide), fun _ => h, fun e => absurd e (by decide), fun e => absurd e (by decide), fun e => absurd e (by decide), fun e => absurd e (by decide), fun e => absurd e (by decide), fun e => absurd e (by decide), fun e => absurd e (by decide)⟩
theorem csz_22 (h : mkx (lxz 3 dep) [20, 40] cs ∧ (2 ≤ cs.length ∨ ¬ one T t [20, 40] = 0)) : csz T 22 dep cs t := ⟨fun e => absurd e (by decide), fun e => absurd e (by decide), fun e => absurd e (by decide), fun _ => h, fun e => absurd e (by decide), fun e => absurd e (by decide), fun e => absurd e (by decide), fun e => absurd e (by decide), fun e => absurd e (by decide), fun e => absurd e (by decide)⟩
theorem csz_26 (h : mkx (lxz 7 dep) [24, 25] cs ∧ (2 ≤ cs.length ∨ ¬ one T t [24, 25] = 0)) : csz T 26 dep cs t := ⟨fun e => absurd e (by decide), fun e => absurd e (by decide), fun e => absurd e (by decide), fun e => absurd e (by decide), fun _ => h, fun e => absurd e (by decide), fun e => absurd e (by decide), fun e => absurd e (by decide), fun e => absurd e (by decide), fun e => absurd e (by decide)⟩
theorem csz_27 (h : mkx (lxz 8 dep) [26, 27, 51] cs ∧ (2 ≤ cs.length ∨ ¬ one T t [26, 27, 51] = 0)) : csz T 27 dep cs t := ⟨fun e => absurd e (by decide), fun e => absurd e (by decide), fun e => absurd e (by decide), fun e => absurd e (by decide), fun e => absurd e (by decide), fun _ => h, fun e => absurd e (by decide), fun e => absurd e (by decide), fun e => absurd e (by decide), fun e => absurd e (by decide)⟩
theorem csz_25 (h : alx (lxz 0 dep) cs ∧ 2 ≤ cs.length) : csz T 25 dep cs t := ⟨fun e => absurd e (by decide), fun e => absurd e (by decide), fun e => absurd e (by decide), fun e => absurd e (by decide), fun e => absurd e (by decide), fun e => absurd e (by decide), fun _ => h, fun e => absurd e (by decide), fun e => absurd e (by decide), fun e => absurd e (by decide)⟩
theorem csz_29 (h : alx (lxz 0 dep) cs ∧ cs.length % 2 = 0) : csz T 29 dep cs t := ⟨fun e => absurd e (by decide), fun e => absurd e (by decide), fun e => absurd e (by decide), fun e => absurd e (by decide), fun e => absurd e (by decide), fun e => absurd e (by decide), fun e => absurd e (by decide), fun _ => h, fun e => absurd e (by decide), fun e => absurd e (by decide)⟩
theorem csz_30 (h : (∀ i, i < cs.length → i % 2 = 0 → exw (lxz 0 dep) (cs.getD i (fun _ => none))) ∧ (∀ i, i < cs.length → i % 2 = 1 → chw (lxz 0 dep) (cs.getD i (fun _ => none))) ∧ cs.length % 2 = 0) : csz T 30 dep cs t := ⟨fun e => absurd e (by decide), fun e => absurd e (by decide), fun e => absurd e (by decide), fun e => absurd e (by decide), fun e => absurd e (by decide), fun e => absurd e (by decide), fun e => absurd e (by decide), fun e => absurd e (by decide), fun _ => h, fun e => absurd e (by decide)⟩
theorem csz_31 (h : alx (lxz 0 dep) cs ∧ 1 ≤ cs.length) : csz T 31 dep cs t := ⟨fun e => absurd e (by decide), fun e => absurd e (by decide), fun e => absurd e (by decide), fun e => absurd e (by decide), fun e => absurd e (by decide), fun e => absurd e (by decide), fun e => absurd e (by decide), fun e => absurd e (by decide), fun e => absurd e (by decide), fun _ => h⟩
theorem lx_le {a b k : Nat} (h : rlz a + k ≤ rlz b) : lxz a dep + k ≤ lxz b dep := by unfold lxz; omega
theorem lx_dn {a b k : Nat} (hd : dep < 150) (h : rlz a + k ≤ rlz b + 6) : lxz a (dep + 1) + k ≤ lxz b dep := by unfold lxz; omega
theorem lx_h {a b k : Nat} (hd : dep < 150) (hd2 : dep + 1 < 150) (h : rlz a + k ≤ rlz b + 12) : lxz a (dep + 1 + 1) + k ≤ lxz b dep := by unfold lxz; omega
theorem lx_e {a b : Nat} (h : rlz a ≤ rlz b) : lxz a dep ≤ lxz b dep := by unfold lxz; omega
theorem lx_f {a b : Nat} (hd : dep < 150) (h : rlz a ≤ rlz b + 6) : lxz a (dep + 1) ≤ lxz b dep := by unfold lxz; omega
theorem lx_g {a b : Nat} (hd : dep < 150) (hd2 : dep + 1 < 150) (h : rlz a ≤ rlz b + 12) : lxz a (dep + 1 + 1) ≤ lxz b dep := by unfold lxz; omega
theorem wz_x {nt : Nat} {r : PR} (h : ¬ (nt = 10 ∨ nt = 11 ∨ nt = 30 ∨ nt = 31)) (hr : wz (exw (lxz nt dep)) r) : wz (wfz nt dep) r := hr.imp (fun c z => by unfold wfz; rw [if_neg h]; exact z)
theorem wz_c {nt : Nat} {r : PR} (h : nt = 10 ∨ nt = 11 ∨ nt = 30 ∨ nt = 31) (hr : wz (chw (lxz nt dep)) r) : wz (wfz nt dep) r := hr.imp (fun c z => by unfold wfz; rw [if_pos h]; exact z)
theorem wfP.lx (hP : wfP T P) {nt : Nat} (h : ¬ (nt = 10 ∨ nt = 11 ∨ nt = 30 ∨ nt = 31)) (hc : csz T nt dep cs t) : wz (exw (lxz nt dep)) (P nt dep cs t) := (hP nt dep cs t hc).imp (fun c z => by unfold wfz at z; rw [if_neg h] at z; exact z)
theorem wfP.lc (hP : wfP T P) {nt : Nat} (h : nt = 10 ∨ nt = 11 ∨ nt = 30 ∨ nt = 31) (hc : csz T nt dep cs t) : wz (chw (lxz nt dep)) (P nt dep cs t) := (hP nt dep cs t hc).imp (fun c z => by unfold wfz at z; rw [if_pos h] at z; exact z)
theorem alx1 {l : Nat} {c : Tre} (h : exw l c) : alx l [c] := fun i hi => by
  have e : i = 0 := by have hi : i < 1 := hi; omega
  subst e
  exact h
theorem alx.add {l : Nat} {c : Tre} (h : alx l cs) (hc : exw l c) : alx l (cs ++ [c]) := getD_all h hc
theorem alx.le {l l' : Nat} (h : alx l cs) (he : l ≤ l') : alx l' cs := fun i hi => (h i hi).le he
theorem mkx1 {l : Nat} {ms : List Nat} {c : Tre} (h : exw l c) : mkx l ms [c] := ⟨Nat.le_refl _, h, fun i hi hj => by have hj : i < 1 := hj; omega⟩
theorem len_ap {c : Tre} : (cs ++ [c]).length = cs.length + 1 := by rw [List.length_append]; rfl
theorem wf_0 (hP : wfP T P) : wz (exw (lxz 0 dep)) (pxA T P 1 1 20 dep t) := wz_bi (hP.x (nt := 1) (by decide)) (fun c t1 h => wz_if (fun _ => wz_ok (h.le (lx_e (by decide)))) (fun e => (hP.lx (nt := 20) (by decide) (csz_20 ⟨alx1 h, Nat.le_refl _, Or.inr e⟩)).imp (fun c z => z.le (lx_e (by decide)))))
theorem wf_20 (hP : wfP T P) (hc : csz T 20 dep cs t) : wz (exw (lxz 20 dep)) (pxAl T n P 1 1 20 dep cs t) := by
  have h : alx (lxz 1 dep) cs ∧ 1 ≤ cs.length ∧ (2 ≤ cs.length ∨ ¬ tis T t (txt 1) = 0) := hc.1 rfl
  exact wz_Al (l := lxz 1 dep) h (by decide) (hP.x (nt := 1) (by decide)) (lx_le (by decide)) (fun c t1 hc => hP.lx (nt := 20) (by decide) (csz_20 ⟨h.1.add hc, by rw [len_ap]; omega, Or.inl (by rw [len_ap]; omega)⟩))
theorem wf_1 (hP : wfP T P) : wz (exw (lxz 1 dep)) (pxA T P 2 2 21 dep t) := wz_bi (hP.x (nt := 2) (by decide)) (fun c t1 h => wz_if (fun _ => wz_ok (h.le (lx_e (by decide)))) (fun e => (hP.lx (nt := 21) (by decide) (csz_21 ⟨alx1 h, Nat.le_refl _, Or.inr e⟩)).imp (fun c z => z.le (lx_e (by decide)))))
theorem wf_21 (hP : wfP T P) (hc : csz T 21 dep cs t) : wz (exw (lxz 21 dep)) (pxAl T n P 2 2 21 dep cs t) := by
  have h : alx (lxz 2 dep) cs ∧ 1 ≤ cs.length ∧ (2 ≤ cs.length ∨ ¬ tis T t (txt 2) = 0) := hc.2.1 rfl
  exact wz_Al (l := lxz 2 dep) h (by decide) (hP.x (nt := 2) (by decide)) (lx_le (by decide)) (fun c t1 hc => hP.lx (nt := 21) (by decide) (csz_21 ⟨h.1.add hc, by rw [len_ap]; omega, Or.inl (by rw [len_ap]; omega)⟩))
theorem wf_3 (hP : wfP T P) : wz (exw (lxz 3 dep)) (pxA T P 19 4 23 dep t) := wz_bi (hP.x (nt := 4) (by decide)) (fun c t1 h => wz_if (fun _ => wz_ok (h.le (lx_e (by decide)))) (fun e => (hP.lx (nt := 23) (by decide) (csz_23 ⟨alx1 h, Nat.le_refl _, Or.inr e⟩)).imp (fun c z => z.le (lx_e (by decide)))))
theorem wf_23 (hP : wfP T P) (hc : csz T 23 dep cs t) : wz (exw (lxz 23 dep)) (pxAl T n P 19 4 23 dep cs t) := by
  have h : alx (lxz 4 dep) cs ∧ 1 ≤ cs.length ∧ (2 ≤ cs.length ∨ ¬ tis T t (txt 19) = 0) := hc.2.2.1 rfl
  exact wz_Al (l := lxz 4 dep) h (by decide) (hP.x (nt := 4) (by decide)) (lx_le (by decide)) (fun c t1 hc => hP.lx (nt := 23) (by decide) (csz_23 ⟨h.1.add hc, by rw [len_ap]; omega, Or.inl (by rw [len_ap]; omega)⟩))
theorem wf_2 (hP : wfP T P) : wz (exw (lxz 2 dep)) (pxB T P [20, 40] 3 22 dep t) := wz_bi (hP.x (nt := 3) (by decide)) (fun c t1 h => wz_if (fun _ => wz_ok (h.le (lx_e (by decide)))) (fun e => (hP.lx (nt := 22) (by decide) (csz_22 ⟨mkx1 h, Or.inr e⟩)).imp (fun c z => z.le (lx_e (by decide)))))
theorem wf_22 (hP : wfP T P) (hc : csz T 22 dep cs t) : wz (exw (lxz 22 dep)) (pxBl T n P [20, 40] 3 22 dep cs t) := by
  have h : mkx (lxz 3 dep) [20, 40] cs ∧ (2 ≤ cs.length ∨ ¬ one T t [20, 40] = 0) := hc.2.2.2.1 rfl
  have h1 := h.1.1
  exact wz_Bl (l := lxz 3 dep) h (by decide) (hP.x (nt := 3) (by decide)) (lx_le (by decide)) (fun c t1 hc e => hP.lx (nt := 22) (by decide) (csz_22 ⟨mkx_add h.1 (one_mem e) hc, Or.inl (by rw [len_ap]; omega)⟩))
theorem wf_6 (hP : wfP T P) : wz (exw (lxz 6 dep)) (pxB T P [24, 25] 7 26 dep t) := wz_bi (hP.x (nt := 7) (by decide)) (fun c t1 h => wz_if (fun _ => wz_ok (h.le (lx_e (by decide)))) (fun e => (hP.lx (nt := 26) (by decide) (csz_26 ⟨mkx1 h, Or.inr e⟩)).imp (fun c z => z.le (lx_e (by decide)))))
theorem wf_26 (hP : wfP T P) (hc : csz T 26 dep cs t) : wz (exw (lxz 26 dep)) (pxBl T n P [24, 25] 7 26 dep cs t) := by
  have h : mkx (lxz 7 dep) [24, 25] cs ∧ (2 ≤ cs.length ∨ ¬ one T t [24, 25] = 0) := hc.2.2.2.2.1 rfl
  have h1 := h.1.1
  exact wz_Bl (l := lxz 7 dep) h (by decide) (hP.x (nt := 7) (by decide)) (lx_le (by decide)) (fun c t1 hc e => hP.lx (nt := 26) (by decide) (csz_26 ⟨mkx_add h.1 (one_mem e) hc, Or.inl (by rw [len_ap]; omega)⟩))
theorem wf_7 (hP : wfP T P) : wz (exw (lxz 7 dep)) (pxB T P [26, 27, 51] 8 27 dep t) := wz_bi (hP.x (nt := 8) (by decide)) (fun c t1 h => wz_if (fun _ => wz_ok (h.le (lx_e (by decide)))) (fun e => (hP.lx (nt := 27) (by decide) (csz_27 ⟨mkx1 h, Or.inr e⟩)).imp (fun c z => z.le (lx_e (by decide)))))
theorem wf_27 (hP : wfP T P) (hc : csz T 27 dep cs t) : wz (exw (lxz 27 dep)) (pxBl T n P [26, 27, 51] 8 27 dep cs t) := by
  have h : mkx (lxz 8 dep) [26, 27, 51] cs ∧ (2 ≤ cs.length ∨ ¬ one T t [26, 27, 51] = 0) := hc.2.2.2.2.2.1 rfl
  have h1 := h.1.1
  exact wz_Bl (l := lxz 8 dep) h (by decide) (hP.x (nt := 8) (by decide)) (lx_le (by decide)) (fun c t1 hc e => hP.lx (nt := 27) (by decide) (csz_27 ⟨mkx_add h.1 (one_mem e) hc, Or.inl (by rw [len_ap]; omega)⟩))
theorem wf_4 (hP : wfP T P) : wz (exw (lxz 4 dep)) (px4 T n P dep t) := by
  refine wz_nst (fun hd => wz_if (fun _ => wz_if (fun _ => wz_if (fun _ => ?_) (fun e => ?_)) (fun e => ?_)) (fun e => ?_))
  · exact (hP.x (nt := 5) (by decide)).imp (fun c z => z.le (lx_f hd (by decide)))
  · refine wz_exq (wz_nst (fun hd2 => wz_bi (hP.x (nt := 0) (by decide)) (fun c t3 h1 => wz_exq (wz_nst (fun hd3 => wz_bi (hP.x (nt := 0) (by decide)) (fun c2 t5 h2 => wz_exq (wz_ok (exw.le (l := lxz 0 (dep + 1 + 1) + 1) (Or.inr (Or.inr (Or.inr (Or.inl ⟨?_, rfl, h1, h2⟩)))) (lx_h hd hd2 (by decide))))))))))
    have h := one_mem e
    simp only [List.mem_cons, List.not_mem_nil, or_false] at h
    rcases h with h | h <;> (show one T t [47, 48] ∈ _; rw [h]; decide)
  · refine wz_bi (hP.x (nt := 4) (by decide)) (fun c t1 h1 => wz_ok (exw.le (l := lxz 4 (dep + 1) + 1) (Or.inr (Or.inr (Or.inl ⟨?_, rfl, h1⟩))) (lx_dn hd (by decide))))
    have h := one_mem e
    simp only [List.mem_cons, List.not_mem_nil, or_false] at h
    rcases h with h | h | h | h | h | h <;> (show one T t [41, 42, 43, 44, 45, 46] ∈ _; rw [h]; decide)
  · exact wz_bi (hP.x (nt := 4) (by decide)) (fun c t1 h1 => wz_ok (exw.le (l := lxz 4 (dep + 1) + 1) (Or.inr (Or.inr (Or.inl ⟨by show 18 ∈ _; decide, rfl, h1⟩))) (lx_dn hd (by decide))))
theorem wf_5 (hP : wfP T P) : wz (exw (lxz 5 dep)) (px5 T n P dep t) := by
  refine wz_bi (hP.x (nt := 6) (by decide)) (fun c t1 h1 => wz_if (fun _ => wz_if (fun _ => wz_ok (h1.le (lx_e (by decide)))) (fun e => ?_)) (fun e => ?_))
  · refine wz_bi (hP.x (nt := 6) (by decide)) (fun c2 t2 h2 => wz_ok (exw.le (l := lxz 6 dep + 1) (Or.inr (Or.inr (Or.inr (Or.inl ⟨?_, rfl, h1, h2⟩)))) (lx_le (by decide))))
    have h := one_mem e
    simp only [List.mem_cons, List.not_mem_nil, or_false] at h
    rcases h with h | h | h | h | h | h <;> (show one T t1 [21, 5, 22, 6, 23, 7] ∈ _; rw [h]; decide)
  · refine wz_exq (wz_bi (hP.x (nt := 0) (by decide)) (fun c2 t3 h2 => ?_))
    exact (hP.lx (nt := 25) (by decide) (csz_25 ⟨(alx1 (h1.le (lx_e (a := 6) (b := 0) (by decide)))).add h2, Nat.le_refl _⟩)).imp (fun c z => z.le (lx_e (by decide)))
theorem wf_25 (hP : wfP T P) (hc : csz T 25 dep cs t) : wz (exw (lxz 25 dep)) (pxL T n P 50 25 dep cs t) := by
  have h : alx (lxz 0 dep) cs ∧ 2 ≤ cs.length := hc.2.2.2.2.2.2.1 rfl
  refine wz_if (fun _ => wz_exq (wz_ok (exw.le (l := lxz 0 dep + 1) (Or.inr (Or.inr (Or.inr (Or.inr (Or.inl ⟨by show 50 ∈ _; decide, h.2, h.1⟩))))) (lx_le (by decide))))) (fun e => wz_bi (hP.x (nt := 0) (by decide)) (fun c t1 h1 => ?_))
  exact hP.lx (nt := 25) (by decide) (csz_25 ⟨h.1.add h1, by rw [len_ap]; omega⟩)
theorem wf_31 (hP : wfP T P) (hc : csz T 31 dep cs t) : wz (chw (lxz 31 dep)) (pxL T n P 10 31 dep cs t) := by
  have h : alx (lxz 0 dep) cs ∧ 1 ≤ cs.length := hc.2.2.2.2.2.2.2.2.2 rfl
  refine wz_if (fun _ => wz_exq (wz_ok (chw.le (l := lxz 0 dep + 1) (Or.inl ⟨rfl, h.2, h.1⟩) (lx_le (by decide))))) (fun e => wz_bi (hP.x (nt := 0) (by decide)) (fun c t1 h1 => ?_))
  exact hP.lc (nt := 31) (by decide) (csz_31 ⟨h.1.add h1, by rw [len_ap]; omega⟩)
theorem wf_8 (hP : wfP T P) : wz (exw (lxz 8 dep)) (px8 T n P dep t) := by
  have l0 : ∀ d, lxz 8 d = 6 * (150 - d) + 0 + 1 := fun d => rfl
  refine wz_nst (fun hd => wz_if (fun _ => wz_if (fun e => ?_) (fun _ => wz_if (fun _ => wz_if (fun _ => wz_if (fun _ => wz_if (fun _ => ?_) (fun e => ?_)) (fun e => ?_)) (fun e => ?_)) (fun e => ?_))) (fun e => ?_))
  · rw [l0]; exact wz_ok (Or.inl ⟨by show 63 ∈ _; decide, rfl⟩)
  · rw [l0]; exact wz_pxp (by decide)
  · exact (hP.lx (nt := 9) (by decide) (csz_lo (by decide))).imp (fun c z => z.le (lx_f hd (by decide)))
  · exact wz_nst (fun hd2 => wz_bi (hP.x (nt := 0) (by decide)) (fun c t2 h1 => wz_exq (wz_ok (h1.le (lx_g hd hd2 (by decide))))))
  · rw [l0]; exact wz_exq (wz_bi (wz_pxp (by decide)) (fun c t3 h1 => wz_exq (wz_ok h1)))
  · rw [l0]
    refine wz_ok (Or.inl ⟨?_, rfl⟩)
    have h := one_mem e
    simp only [List.mem_cons, List.not_mem_nil, or_false] at h
    rcases h with h | h <;> (show one T t [54, 55] ∈ _; rw [h]; decide)
  · exact wz_bi (hP.x (nt := 8) (by decide)) (fun c t1 h1 => wz_ok (exw.le (l := lxz 8 (dep + 1) + 1) (Or.inr (Or.inr (Or.inl ⟨by show 65 ∈ _; decide, rfl, h1⟩))) (lx_dn hd (by decide))))
theorem wf_9 (hP : wfP T P) : wz (exw (lxz 9 dep)) (px9 T n P 29 dep t) := wz_nst (fun hd => wz_exq ((hP.lx (nt := 29) (by decide) (csz_29 ⟨fun i hi => absurd hi (Nat.not_lt_zero _), rfl⟩)).imp (fun c z => z.le (lx_f hd (by decide)))))
theorem wf_10 (hP : wfP T P) : wz (chw (lxz 10 dep)) (px9 T n P 30 dep t) := wz_nst (fun hd => wz_exq ((hP.lc (nt := 30) (by decide) (csz_30 ⟨fun i hi => absurd hi (Nat.not_lt_zero _), fun i hi => absurd hi (Nat.not_lt_zero _), rfl⟩)).imp (fun c z => z.le (lx_f hd (by decide)))))
theorem wf_29 (hP : wfP T P) (hc : csz T 29 dep cs t) : wz (exw (lxz 29 dep)) (pxC T n P 0 29 dep cs t) := by
  have h : alx (lxz 0 dep) cs ∧ cs.length % 2 = 0 := hc.2.2.2.2.2.2.2.1 rfl
  refine wz_bi (hP.x (nt := 0) (by decide)) (fun c t1 h1 => wz_exq (wz_bi (hP.x (nt := 0) (by decide)) (fun c2 t3 h2 => wz_exq ?_)))
  have hA : alx (lxz 0 dep) (cs ++ [c] ++ [c2]) ∧ (cs ++ [c] ++ [c2]).length % 2 = 0 ∧ 2 ≤ (cs ++ [c] ++ [c2]).length := ⟨(h.1.add h1).add h2, by rw [len_ap, len_ap]; omega, by rw [len_ap, len_ap]; omega⟩
  refine wz_if (fun _ => hP.lx (nt := 29) (by decide) (csz_29 ⟨hA.1, hA.2.1⟩)) (fun _ => wz_ok (exw.le (l := lxz 0 dep + 1) (Or.inr (Or.inr (Or.inr (Or.inr (Or.inr (Or.inl ⟨rfl, hA.2.1, hA.2.2, hA.1⟩)))))) (lx_le (by decide))))
theorem wf_30 (hP : wfP T P) (hc : csz T 30 dep cs t) : wz (chw (lxz 30 dep)) (pxC T n P 11 30 dep cs t) := by
  have h : (∀ i, i < cs.length → i % 2 = 0 → exw (lxz 0 dep) (cs.getD i (fun _ => none))) ∧ (∀ i, i < cs.length → i % 2 = 1 → chw (lxz 0 dep) (cs.getD i (fun _ => none))) ∧ cs.length % 2 = 0 := hc.2.2.2.2.2.2.2.2.1 rfl
  refine wz_bi (hP.x (nt := 0) (by decide)) (fun c t1 h1 => wz_exq (wz_bi (hP.lc (nt := 11) (by decide) (csz_lo (by decide))) (fun c2 t3 h2 => wz_exq ?_)))
  have h2 := h2.le (lx_e (a := 11) (b := 0) (dep := dep) (by decide))
  have hL : (cs ++ [c] ++ [c2]).length = cs.length + 2 := by rw [len_ap, len_ap]
  have hA : (∀ i, i < (cs ++ [c] ++ [c2]).length → i % 2 = 0 → exw (lxz 0 dep) ((cs ++ [c] ++ [c2]).getD i (fun _ => none))) ∧ (∀ i, i < (cs ++ [c] ++ [c2]).length → i % 2 = 1 → chw (lxz 0 dep) ((cs ++ [c] ++ [c2]).getD i (fun _ => none))) ∧ (cs ++ [c] ++ [c2]).length % 2 = 0 := by
    refine ⟨fun i hi e => ?_, fun i hi e => ?_, by omega⟩
    · rw [getD_appT, len_ap]
      by_cases e1 : i = cs.length + 1
      · omega
      · rw [if_neg e1, getD_appT]
        by_cases e2 : i = cs.length
        · rw [if_pos e2]; exact h1
        · rw [if_neg e2]; exact h.1 i (by omega) e
    · rw [getD_appT, len_ap]
      by_cases e1 : i = cs.length + 1
      · rw [if_pos e1]; exact h2
      · rw [if_neg e1, getD_appT]
        by_cases e2 : i = cs.length
        · omega
        · rw [if_neg e2]; exact h.2.1 i (by omega) e
  refine wz_if (fun _ => hP.lc (nt := 30) (by decide) (csz_30 hA)) (fun _ => wz_ok (chw.le (l := lxz 0 dep + 1) (Or.inr (Or.inl ⟨rfl, hA.2.2, by show 2 ≤ (cs ++ [c] ++ [c2]).length; omega, hA.1, hA.2.1⟩)) (lx_le (by decide))))
theorem wf_11 (hP : wfP T P) : wz (chw (lxz 11 dep)) (px11 T n P dep t) := by
  refine wz_nst (fun hd => wz_if (fun _ => wz_if (fun _ => ?_) (fun e => ?_)) (fun e => ?_))
  · exact (hP.x (nt := 0) (by decide)).imp (fun c z => (z.le (lx_f hd (by decide))).ch)
  · exact (hP.lc (nt := 10) (by decide) (csz_lo (by decide))).imp (fun c z => z.le (lx_f hd (by decide)))
  · refine wz_bi (hP.x (nt := 0) (by decide)) (fun c t1 h1 => ?_)
    exact (hP.lc (nt := 31) (by decide) (csz_31 ⟨alx1 h1, Nat.le_refl _⟩)).imp (fun c z => z.le (lx_f hd (by decide)))
theorem wf_s (hP : wfP T P) : wfP T (pxs T n P) := by
  intro nt dep cs t hc
  by_cases hn : nt ∈ ntl
  · simp only [ntl, List.mem_cons, List.not_mem_nil, or_false] at hn
    rcases hn with h | h | h | h | h | h | h | h | h | h | h | h | h | h | h | h | h | h | h | h | h | h
    all_goals subst h
    · exact wz_x (by decide) (wf_0 hP)
    · exact wz_x (by decide) (wf_1 hP)
    · exact wz_x (by decide) (wf_2 hP)
    · exact wz_x (by decide) (wf_3 hP)
    · exact wz_x (by decide) (wf_4 hP)
    · exact wz_x (by decide) (wf_5 hP)
    · exact wz_x (by decide) (wf_6 hP)
    · exact wz_x (by decide) (wf_7 hP)
    · exact wz_x (by decide) (wf_8 hP)
    · exact wz_x (by decide) (wf_9 hP)
    · exact wz_c (by decide) (wf_10 hP)
    · exact wz_c (by decide) (wf_11 hP)
    · exact wz_x (by decide) (wf_20 hP hc)
    · exact wz_x (by decide) (wf_21 hP hc)
    · exact wz_x (by decide) (wf_22 hP hc)
    · exact wz_x (by decide) (wf_23 hP hc)
    · exact wz_x (by decide) (wf_25 hP hc)
    · exact wz_x (by decide) (wf_26 hP hc)
    · exact wz_x (by decide) (wf_27 hP hc)
    · exact wz_x (by decide) (wf_29 hP hc)
    · exact wz_c (by decide) (wf_30 hP hc)
    · exact wz_c (by decide) (wf_31 hP hc)
  · have e : pxs T n P nt dep cs t = none := by
      simp only [ntl, List.mem_cons, List.not_mem_nil, or_false, not_or] at hn
      unfold pxs
      simp [hn]
    rw [e]
    exact fun c t1 z => by cases z
end Wfs
/-- the pure parser's trees are well formed -/
theorem px_wf {T : Nat → Int32} {n : Nat} : ∀ f, wfP T (px T n f)
  | 0 => fun _ _ _ _ _ => fun c t1 z => by cases z
  | f + 1 => wf_s (px_wf f)
