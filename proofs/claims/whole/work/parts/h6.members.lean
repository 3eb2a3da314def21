/-! GRAPH: the members of the rows, from what begin leaves -/
section MembersOf
variable {T R i r s : Nat} {rx : Nat → Nat} {V : Ud} {wn : Nat}
theorem psz_in (hs : s < T) : pzz rx (rx s) T ≤ psz rx T s ∧ psz rx T s < pzz rx (rx s + 1) T := by
  have h1 := czz_lt (rx := rx) (r := rx s) hs rfl
  have h2 := pzz_s (rx := rx) (r := rx s) T
  unfold psz
  omega
theorem psz_sur (h : ∀ s, s < T → rx s < R) (hi : i < T) : ∃ s, s < T ∧ psz rx T s = i := by
  have key : ∀ n, i < pzz rx n T → ∃ r, pzz rx r T ≤ i ∧ i < pzz rx (r + 1) T := by
    intro n
    induction n with
    | zero => intro h0; rw [pzz_0] at h0; exact absurd h0 (Nat.not_lt_zero i)
    | succ n ih =>
      intro hn
      rcases Nat.lt_or_ge i (pzz rx n T) with y | y
      · exact ih y
      · exact ⟨n, y, hn⟩
  obtain ⟨r, h1, h2⟩ := key R (by rw [pzz_all h]; exact hi)
  have h3 := pzz_s (rx := rx) (r := r) T
  obtain ⟨s, s1, s2, s3⟩ := czz_ex (rx := rx) (r := r) (T := T) (k := i - pzz rx r T) (by omega)
  refine ⟨s, s1, ?_⟩
  unfold psz
  rw [s2, s3]
  omega
theorem mbp_begin (h : ∀ s, s < T → rx s < R) : ∃ me : Nat → Nat, MBP T R rx (fun r => pzz rx r T) me ∧ (∀ s, s < T → me (psz rx T s) = s) ∧ ∀ i, i < T → me i < T := by
  have hex : ∀ i, ∃ s, i < T → s < T ∧ psz rx T s = i := fun i => by
    by_cases hi : i < T
    · obtain ⟨s, s1⟩ := psz_sur h hi
      exact ⟨s, fun _ => s1⟩
    · exact ⟨0, fun z => absurd z hi⟩
  have hme := fun i => Classical.choose_spec (hex i)
  obtain ⟨me, hme⟩ : ∃ me : Nat → Nat, ∀ i, i < T → me i < T ∧ psz rx T (me i) = i := ⟨fun i => Classical.choose (hex i), hme⟩
  have hinj : ∀ s s', s < T → s' < T → psz rx T s = psz rx T s' → s = s' := fun s s' h1 h2 he => Classical.byContradiction (fun z => psz_ne h1 h2 z he)
  have hinv : ∀ s, s < T → me (psz rx T s) = s := fun s hs => by
    have h1 := psz_lt (rx := rx) hs
    obtain ⟨h2, h3⟩ := hme _ h1
    exact hinj _ _ h2 hs h3
  refine ⟨me, ⟨fun r hr => ⟨pzz_up (by omega) T, pzz_le T⟩, fun r i hr h1 h2 => ?_, fun s hs => ⟨psz rx T s, (psz_in hs).1, (psz_in hs).2, hinv s hs⟩, fun i j hi hj he => ?_⟩, hinv, fun i hi => (hme i hi).1⟩
  · have hT : pzz rx (r + 1) T ≤ T := pzz_le T
    have h1 : pzz rx r T ≤ i := h1
    have h2 : i < pzz rx (r + 1) T := h2
    obtain ⟨k1, k2⟩ := hme i (by omega)
    obtain ⟨k3, k4⟩ := psz_in (rx := rx) k1
    rw [k2] at k3 k4
    rcases Nat.lt_or_ge (rx (me i)) r with y | y
    · have := pzz_up (rx := rx) (show rx (me i) + 1 ≤ r by omega) T
      omega
    · rcases Nat.lt_or_ge r (rx (me i)) with z | z
      · have := pzz_up (rx := rx) (show r + 1 ≤ rx (me i) by omega) T
        omega
      · omega
  · have h1 := (hme i hi).2
    have h2 := (hme j hj).2
    rw [he] at h1
    omega
/-- what the methods of the Graph stand on, behind begin -/
theorem grb_begin (h12 : V.2.1 99 12 = nI wn) (h11 : V.2.1 99 11 = nI T) (hw : wn = (T + 63) / 64) (hT : T ≤ 16384) (h6 : T ≤ (V.2.2.1 129 6).1) (h6b : (V.2.2.1 129 6).1 ≤ 16777216) (hrx : ∀ s, s < T → (V.2.2.1 129 6).2 s = nI (rx s) ∧ rx s < R) (hR : R ≤ T + 1) (hl : 7 * (T + 4) ≤ (V.2.2.1 147 10).1 ∧ lwh 7 (V.2.2.1 147 10).1 ∧ 1 * (T + 4) ≤ (V.2.2.1 147 11).1 ∧ lwh 1 (V.2.2.1 147 11).1 ∧ 1 * (T + 4) ≤ (V.2.2.1 147 12).1 ∧ lwh 1 (V.2.2.1 147 12).1 ∧ 1 * (T + 4) ≤ (V.2.2.1 147 13).1 ∧ lwh 1 (V.2.2.1 147 13).1) (hm : ∀ r, r < R + 1 → (V.2.2.1 147 10).2 (r * 7 + 0) = nI (pzz rx r T)) (hs : ∀ s, s < T → (V.2.2.1 147 11).2 (psz rx T s) = nI s) : ∃ me : Nat → Nat, GRB V T R wn rx (fun r => pzz rx r T) me := by
  obtain ⟨l1, l2, l3, l4, l5, l6, l7, l8⟩ := hl
  obtain ⟨me, k1, k2, k3⟩ := mbp_begin (T := T) (R := R) (rx := rx) (fun s hs => (hrx s hs).2)
  have b1 := lwh_le l2
  have b2 := lwh_le l4
  have b3 := lwh_le l6
  have b4 := lwh_le l8
  refine ⟨me, ⟨⟨h12, h11⟩, hw, hT⟩, ⟨⟨h6, h6b⟩, hrx⟩, ⟨hR, l1, by omega⟩, ⟨by omega, by omega⟩, ⟨by omega, by omega⟩, ⟨by omega, by omega⟩, hm, fun i hi => ⟨?_, k3 i hi⟩, k1⟩
  obtain ⟨s, s1, s2⟩ := psz_sur (T := T) (R := R) (rx := rx) (fun s hs => (hrx s hs).2) hi
  rw [← s2, k2 s s1]
  exact hs s s1
end MembersOf
