/-! WHAT RECKON MAKES OF AN OPERATOR'S PARTS -/
section Reckoned
variable {G RB Fs : Nat → Nat → Prop} {E Fr A B p g : Nat → Prop} {nf o s op T R wn ga gi sj jl jr : Nat} {rx : Nat → Nat} {X U : Ud} {L4 : Nat → Int64}
/-- a sweep that leads somewhere -/
theorem sweep_eus (hp : ∀ s, p s → s < T) (hg : ∀ s, g s → s < T) (h1 : ∀ s, s < T → (bts (rkt X ga gi 28) s = true ↔ g s)) (h2 : ∀ s, s < T → (bts (rka X ga gi 28) s = true ↔ p s ∧ ¬ g s)) (hG : ∀ s t, s < T → (G s t ↔ RB (rx s) t)) : ((s < T ∧ bts (rkt X ga gi 28) s = true) ∨ ((s < T ∧ bts (rka X ga gi 28) s = true) ∧ GDR RB (fun t => t < T ∧ bts (rka X ga gi 28) t = true) rx (fun t => t < T ∧ bts (rkt X ga gi 28) t = true) (¬ (0 : Nat) = 0) nf Fs (rx s))) ↔ EUS G p g s := by
  have e1 : ∀ t, (t < T ∧ bts (rkt X ga gi 28) t = true) ↔ g t := fun t => ⟨fun y => (h1 t y.1).mp y.2, fun y => ⟨hg t y, (h1 t (hg t y)).mpr y⟩⟩
  have e2 : ∀ t, (t < T ∧ bts (rka X ga gi 28) t = true) ↔ p t ∧ ¬ (t < T ∧ bts (rkt X ga gi 28) t = true) := fun t => ⟨fun y => ⟨((h2 t y.1).mp y.2).1, fun z => ((h2 t y.1).mp y.2).2 ((e1 t).mp z)⟩, fun y => ⟨hp t y.1, (h2 t (hp t y.1)).mpr ⟨y.1, fun z => y.2 ((e1 t).mpr z)⟩⟩⟩
  exact (eus_iff (A := fun t => t < T ∧ bts (rka X ga gi 28) t = true) (g0 := fun t => t < T ∧ bts (rkt X ga gi 28) t = true) (fun y => y rfl) hG hp e2).trans (EUS.congr (fun _ => Iff.rfl) e1)
/-- a sweep for what goes on for ever -/
theorem sweep_egs (hp : ∀ s, p s → s < T) (h1 : ∀ s, s < T → ¬ bts (rkt X ga gi 12) s = true) (h2 : ∀ s, s < T → (bts (rka X ga gi 12) s = true ↔ p s)) (hG : ∀ s t, s < T → (G s t ↔ RB (rx s) t)) : ((s < T ∧ bts (rkt X ga gi 12) s = true) ∨ ((s < T ∧ bts (rka X ga gi 12) s = true) ∧ GDR RB (fun t => t < T ∧ bts (rka X ga gi 12) t = true) rx (fun t => t < T ∧ bts (rkt X ga gi 12) t = true) (¬ (1 : Nat) = 0) nf Fs (rx s))) ↔ EGS G nf Fs p s := by
  have eg : (fun t => t < T ∧ bts (rkt X ga gi 12) t = true) = fun _ => False := funext fun t => propext ⟨fun y => h1 t y.1 y.2, fun y => False.elim y⟩
  have eA : (fun t => t < T ∧ bts (rka X ga gi 12) t = true) = p := funext fun t => propext ⟨fun y => (h2 t y.1).mp y.2, fun y => ⟨hp t y, (h2 t (hp t y)).mpr y⟩⟩
  have eA1 : (s < T ∧ bts (rka X ga gi 12) s = true) ↔ p s := iff_of_eq (congrFun eA s)
  rw [eg, eA, eA1]
  constructor
  · rintro (y | ⟨y1, y2⟩)
    · exact absurd y.2 (h1 s y.1)
    · exact (gdr_egs hG hp y1).mp ((gdr_ed ⟨fun _ => trivial, fun _ => by decide⟩).mp y2)
  · intro y
    have hs := y.inside
    exact Or.inr ⟨hs, (gdr_ed ⟨fun _ => trivial, fun _ => by decide⟩).mpr ((gdr_egs hG hp hs).mpr y)⟩
/-- the words that prepare lays out -/
def PRW (X U : Ud) (L4 : Nat → Int64) (o wn jl jr sj : Nat) : Prop := ∀ i, i < wn → X.2.2.2.2.1 162 i = prs o (lgf U 161 jl i) (lgf U 161 jr i) (L4 i) ∧ lgf X 161 sj i = pro o (lgf U 161 jl i) (lgf U 161 jr i) (L4 i)
theorem PRW.to (h : PRW X U L4 o wn jl jr sj) (hTw : T ≤ 64 * wn) (hE : ∀ s, s < 64 * wn → (bts L4 s = true ↔ E s)) (hA : ∀ s, E s → (bts (lgf U 161 jl) s = true ↔ A s)) (hB : ∀ s, E s → (bts (lgf U 161 jr) s = true ↔ B s)) (hF : ∀ s, s < T → (bts (X.2.2.2.2.1 148) s = true ↔ Fr s)) (h12 : ¬ op = 12) (hs : s < T) : bts (rkt X 161 sj op) s = true ↔ (if o = 28 then E s ∧ B s else if o = 29 then (E s ∧ ¬ B s) ∧ ¬ A s else E s ∧ sgz o A s) ∧ Fr s := by
  rw [← hF s hs, ← pro_bit (o := o) (Nat.mod_lt s (by decide)) (hE s (by omega)) (hA s) (hB s)]
  unfold bts rkt
  rw [if_neg h12, btz_and, Bool.and_eq_true, (h (s / 64) (by omega)).2]
theorem PRW.way (h : PRW X U L4 o wn jl jr sj) (hTw : T ≤ 64 * wn) (hE : ∀ s, s < 64 * wn → (bts L4 s = true ↔ E s)) (hA : ∀ s, E s → (bts (lgf U 161 jl) s = true ↔ A s)) (hB : ∀ s, E s → (bts (lgf U 161 jr) s = true ↔ B s)) (h10 : ¬ op = 10) (hs : s < T) : bts (rka X 161 sj op) s = true ↔ (if o = 28 then E s ∧ A s else if o = 29 then E s ∧ ¬ B s else if o = 12 ∨ o = 14 then E s ∧ sgz o A s else E s) ∧ ¬ bts (rkt X 161 sj op) s = true := by
  rw [← prs_bit (o := o) (Nat.mod_lt s (by decide)) (hE s (by omega)) (hA s) (hB s)]
  unfold bts rka
  rw [if_neg h10, btz_and, btz_xm1 (Nat.mod_lt s (by decide)), Bool.and_eq_true, (h (s / 64) (by omega)).1]
  refine and_congr_right (fun _ => ?_)
  cases btz (rkt X 161 sj op (s / 64)) (s % 64) <;> simp
/-- what a sweep has made, once it is done -/
theorem rk1_sweep (h : PRW X U L4 o wn jl jr sj) (ho : tmd o) (hn10 : ¬ (o = 10 ∨ o = 13)) (hTw : T ≤ 64 * wn) (hE : ∀ s, s < 64 * wn → (bts L4 s = true ↔ E s)) (hET : ∀ s, E s → s < T) (hA : ∀ s, E s → (bts (lgf U 161 jl) s = true ↔ A s)) (hB : ∀ s, E s → (bts (lgf U 161 jr) s = true ↔ B s)) (hF : ∀ s, s < T → (bts (X.2.2.2.2.1 148) s = true ↔ Fr s)) (hG : ∀ s t, s < T → (G s t ↔ RB (rx s) t)) {ev : Nat} (hev : ev = if plo o = 12 then 1 else 0) : ((s < T ∧ bts (rkt X 161 sj (plo o)) s = true) ∨ ((s < T ∧ bts (rka X 161 sj (plo o)) s = true) ∧ GDR RB (fun t => t < T ∧ bts (rka X 161 sj (plo o)) t = true) rx (fun t => t < T ∧ bts (rkt X 161 sj (plo o)) t = true) (¬ ev = 0) nf Fs (rx s))) ↔ rk1 G E Fr nf Fs o A B s := by
  unfold tmd at ho
  unfold rk1
  rw [if_neg hn10]
  by_cases h12 : o = 12 ∨ o = 14
  · have hp : plo o = 12 := by unfold plo; rw [if_neg hn10, if_pos h12]
    rw [hp] at hev ⊢
    rw [if_pos rfl] at hev
    rw [if_neg (by omega), if_pos h12, hev]
    have k1 : ∀ s, s < T → ¬ bts (rkt X 161 sj 12) s = true := fun s hs y => by
      unfold bts rkt at y
      rw [if_pos rfl, btz_0] at y
      cases y
    refine sweep_egs (fun s y => hET s y.1) k1 (fun s hs => ?_) hG
    rw [h.way hTw hE hA hB (by decide) hs, if_neg (by omega), if_neg (by omega), if_pos h12]
    exact ⟨fun y => y.1, fun y => ⟨y, k1 s hs⟩⟩
  · have hp : plo o = 28 := by unfold plo; rw [if_neg hn10, if_neg h12]
    rw [hp] at hev ⊢
    rw [if_neg (by decide)] at hev
    rw [hev]
    have k1 := fun s (hs : s < T) => h.to (op := 28) hTw hE hA hB hF (by decide) hs
    have k2 := fun s (hs : s < T) => h.way (op := 28) hTw hE hA hB (by decide) hs
    by_cases h11 : o = 11 ∨ o = 15
    · rw [if_pos h11]
      refine sweep_eus hET (fun s y => hET s y.1.1) (fun s hs => ?_) (fun s hs => ?_) hG
      · rw [k1 s hs, if_neg (by omega), if_neg (by omega)]
      · rw [k2 s hs, k1 s hs, if_neg (by omega), if_neg (by omega), if_neg h12, if_neg (by omega), if_neg (by omega)]
    rw [if_neg h11, if_neg h12]
    by_cases h28 : o = 28
    · rw [if_pos h28]
      refine sweep_eus (fun s y => hET s y.1) (fun s y => hET s y.1.1) (fun s hs => ?_) (fun s hs => ?_) hG
      · rw [k1 s hs, if_pos h28]
      · rw [k2 s hs, k1 s hs, if_pos h28, if_pos h28]
    · have h29 : o = 29 := by omega
      rw [if_neg h28]
      refine sweep_eus (fun s y => hET s y.1) (fun s y => hET s y.1.1.1) (fun s hs => ?_) (fun s hs => ?_) hG
      · rw [k1 s hs, if_neg h28, if_pos h29]
      · rw [k2 s hs, k1 s hs, if_neg h28, if_pos h29, if_neg h28, if_pos h29]
/-- what one step has made -/
theorem rk1_near (ho : o = 10 ∨ o = 13) (hG : ∀ s t, s < T → (G s t ↔ RB (rx s) t)) (hGE : ∀ s t, G s t → E t) (hs : s < T) : (s < T ∧ ∃ u, RB (rx s) u ∧ ((E u ∧ sgz o A u) ∧ Fr u)) ↔ rk1 G E Fr nf Fs o A B s := by
  unfold rk1
  rw [if_pos ho]
  constructor
  · rintro ⟨-, u, y1, y2, y3⟩
    exact ⟨u, (hG s u hs).mpr y1, y2.2, y3⟩
  · rintro ⟨u, y1, y2, y3⟩
    exact ⟨hs, u, (hG s u hs).mp y1, ⟨hGE s u y1, y2⟩, y3⟩
end Reckoned
