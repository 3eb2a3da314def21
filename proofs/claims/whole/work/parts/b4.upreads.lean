/-! THE UPPER LAYER AS DATA: reading, filling; Machine.begin, Prover.begin -/
def upF (U : Ud) (P J b : Nat) (g : Nat → Int32) (k : Nat) : Ud := (U.1, U.2.1, f2 U.2.2.1 P J ((U.2.2.1 P J).1, fun i => if b ≤ i ∧ i < b + k then g (i - b) else (U.2.2.1 P J).2 i), U.2.2.2)
section UpperReads
variable {H H1 H2 : mu_H} {m j d P J p i k : Nat} {C : Nat → Nat} {U : Ud} {S : Nat → Bool}
theorem ud_i (e : ud m H = U) (hP : uo P = true) : mu_i H P j = U.2.1 P j := by
  rw [← e]
  exact (if_pos hP).symm
theorem ud_a (e : ud m H = U) (hP : uo P = true) (ho : gi_o P J = true) : mu_i H (mu_p (mu_r H P J)) i = (U.2.2.1 P J).2 i := by
  rw [← e]
  show _ = (dA H P J).2 i
  unfold dA
  rw [if_pos ⟨hP, ho⟩]
theorem ud_n (e : ud m H = U) (hP : uo P = true) (ho : gi_o P J = true) : mu_n H (mu_p (mu_r H P J)) = (U.2.2.1 P J).1 := by
  rw [← e]
  show _ = (dA H P J).1
  unfold dA
  rw [if_pos ⟨hP, ho⟩]
  rfl
theorem ud_q (e : ud m H = U) (hP : uo P = true) : mu_r H P j = U.2.2.2.1 P j := by
  rw [← e]
  exact (if_pos hP).symm
theorem ud_r (e : ud m H = U) (hP : uo P = true) (_ : gi_o P j = false) : mu_r H P j = U.2.2.2.1 P j := ud_q e hP
theorem ud_l (e : ud m H = U) (hp : fl p = true) : mu_l H p i = U.2.2.2.2.1 p i := by
  rw [← e]
  exact (if_pos hp).symm
/-- ints of an array are filled -/
theorem um.fillA (h : um m H) {b : Nat} {g : Nat → Int32} (hP : uo P = true) (ho : gi_o P J = true) : um m (rw_fill H (mu_p (mu_r H P J)) b g k) ∧ ur m C H (rw_fill H (mu_p (mu_r H P J)) b g k) ∧ ud m (rw_fill H (mu_p (mu_r H P J)) b g k) = upF (ud m H) P J b g k := by
  have hO := h.1.1.o ho
  have hon : mu_onl H (rw_fill H (mu_p (mu_r H P J)) b g k) (mu_p (mu_r H P J)) := ⟨rfl, rfl, fun p j hp => by rw [mu_i_fill, if_neg (fun z => hp z.1)], rfl⟩
  obtain ⟨a, b', c⟩ := h.obj (C := C) hP (h.1.1.onl hon (Or.inl hO.2.2)) (gk.onla (p := P) (j := J) h.1.1 hon (Nat.beq_refl _) ho)
  refine ⟨a, b', ?_⟩
  have e1 : dI (rw_fill H (mu_p (mu_r H P J)) b g k) = dI H := by
    funext p i
    unfold dI
    by_cases hx : uo p = true
    · rw [if_pos hx, if_pos hx, mu_i_fill, if_neg (fun z => ?_)]
      obtain ⟨⟨kd, hkd⟩, -⟩ := uo_k hx
      have h1 := hO.2.2
      have h2 := h.1.1.2.1 p kd hkd
      have h3 := (gi_k_ok hkd).2
      rw [← z.1] at h1
      omega
    · rw [if_neg hx, if_neg hx]
  have e2 : dA (rw_fill H (mu_p (mu_r H P J)) b g k) = f2 (dA H) P J ((dA H P J).1, fun i => if b ≤ i ∧ i < b + k then g (i - b) else (dA H P J).2 i) := by
    funext p i
    unfold f2
    by_cases hpi : p = P ∧ i = J
    · rw [if_pos hpi, hpi.1, hpi.2]
      unfold dA
      rw [if_pos ⟨hP, ho⟩, if_pos ⟨hP, ho⟩]
      refine Prod.ext rfl (funext fun q => ?_)
      show mu_i (rw_fill H (mu_p (mu_r H P J)) b g k) (mu_p (mu_r H P J)) q = if b ≤ q ∧ q < b + k then g (q - b) else mu_i H (mu_p (mu_r H P J)) q
      rw [mu_i_fill]
      by_cases hq : b ≤ q ∧ q < b + k
      · rw [if_pos ⟨rfl, hq⟩, if_pos hq]
      · rw [if_neg (fun z => hq z.2), if_neg hq]
    · rw [if_neg hpi]
      unfold dA
      by_cases hx : uo p = true ∧ gi_o p i = true
      · rw [if_pos hx, if_pos hx]
        refine Prod.ext rfl (funext fun q => ?_)
        show mu_i (rw_fill H (mu_p (mu_r H P J)) b g k) (mu_p (mu_r H p i)) q = mu_i H (mu_p (mu_r H p i)) q
        rw [mu_i_fill, if_neg (fun z => ?_)]
        refine hpi (h.1.1.2.2.2.2.2.1 p i P J hx.2 ho ?_)
        rw [(h.1.1.o hx.2).1, z.1]
        exact hO.1.symm
      · rw [if_neg hx, if_neg hx]
  show (ak m (rw_fill H (mu_p (mu_r H P J)) b g k), dI (rw_fill H (mu_p (mu_r H P J)) b g k), dA (rw_fill H (mu_p (mu_r H P J)) b g k), dR H, dL H, dP H) = (ak m H, dI H, f2 (dA H) P J ((dA H P J).1, fun i => if b ≤ i ∧ i < b + k then g (i - b) else (dA H P J).2 i), dR H, dL H, dP H)
  rw [c, e1, e2]
/-- PathProver$Machine.begin(LPathProver$Space;)V -/
abbrev mu_m234 : ev_M := (2, none, [], ev_b234)
theorem mu_g234 : mu_good mu_m234 := mu_goodk ev_k234
theorem mc_begin (h : um m H) (e : ud m H = U) : mu_TV (mu_D (d + 2)) 234 [.inr (.inr (some 100)), .inr (.inr (some 99))] H (fun H1 => um m H1 ∧ ur m C H H1 ∧ ud m H1 = upT (upR U 100 0 (some 99)) (ac 21 U.1 0)) := by
  refine mu_meth (M := mu_m234) rfl rfl ?_
  refine mw_ht (mu_fn_of (show [0, 1].Nodup by decide)) ?_
  refine mw_go mu_g234 (k := 3) (f1 := (5, [(0, .inr (.inr (some 100))), (1, .inr (.inr (some 99)))], [], mu_sr H 100 0 (some 99))) (C := [mu_is H (some 100) 5]) rfl (h.1.1.is rfl) ?_
  obtain ⟨a, b, c⟩ := h.putR (C := C) (P := 100) (k := 0) (v := some 99) rfl rfl rfl (by decide) (fun q hq => by cases hq; exact Or.inl (by decide))
  generalize mu_sr H 100 0 (some 99) = F at a b c ⊢
  refine mw_go mu_g234 (k := 2) (f1 := (9, [(0, .inr (.inr (some 100))), (1, .inr (.inr (some 99)))], [.inr (.inr (mu_r F 100 1))], F)) (C := [mu_is F (some 100) 5]) rfl (a.1.1.is rfl) ?_
  rw [a.1.1.r (p := 100) (j := 1) (q := 101) rfl]
  refine mw_cV (fun _ => rfl) (show mu_is F (some 101) 10 from a.1.1.is rfl) (a.clearr (C := C) (d := d) c (j := 21) (Or.inr ⟨by decide, by decide⟩) rfl) (fun H1 q => ?_)
  obtain ⟨q1, q2, q3⟩ := q
  refine mw_of (fun _ => mu_ret rfl trivial ⟨H1, rfl, q1, b.trans q2, ?_⟩)
  rw [q3, e]
  rfl
end UpperReads
