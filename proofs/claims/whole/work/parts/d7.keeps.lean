/-! THE STORE OF SETS: a set is kept, whatever stands there -/
section Keeps
variable {H : mu_H} {U V X : Ud} {m d N us ln hd n fr : Nat} {C : Nat → Nat} {fc f0 : Nat → Int64} {w0 : Int64}
def F254 : Uf := ⟨[], [(113, 1), (113, 2)], [(113, 3), (113, 4)], [(113, 3)], [117], true⟩
/-- what is written when a set finds its place at fr -/
def KPs (U V : Ud) (N fr ln hd : Nat) : Prop := uq F254 U V ∧ (V.2.1 113 1 = nI (fr + ln + 1) ∧ V.2.1 113 2 = nI (N + 1)) ∧ (N + 1 ≤ (V.2.2.1 113 3).1 ∧ (U.2.2.1 113 3).1 ≤ (V.2.2.1 113 3).1 ∧ (V.2.2.1 113 3).1 ≤ max (U.2.2.1 113 3).1 (2 * N)) ∧ (∀ j, j < N → (V.2.2.1 113 3).2 j = (U.2.2.1 113 3).2 j) ∧ (V.2.2.1 113 3).2 N = nI fr ∧ (∀ k, (V.2.2.1 113 4).2 k = if k = hd then nI N else (U.2.2.1 113 4).2 k) ∧ (∃ g, V.2.2.2.2.2 114 (fr / 8192) = some (8192, g) ∧ (∀ f0, U.2.2.2.2.2 114 (fr / 8192) = some (8192, f0) → ∀ s, ¬ (fr % 8192 ≤ s ∧ s < fr % 8192 + (ln + 1)) → g s = f0 s) ∧ g (fr % 8192) = ((U.2.2.2.2.1 117 0) ||| ((((U.2.2.1 113 4).2 hd).toInt64 + 1) <<< ((26 : Int32).toInt64 &&& 63))) ∧ ∀ j, 1 ≤ j → j ≤ ln → g (fr % 8192 + j) = U.2.2.2.2.1 117 j) ∧ ∀ a c, ¬ (a = 114 ∧ c = fr / 8192) → V.2.2.2.2.2 a c = U.2.2.2.2.2 a c
/-- and when it finds none -/
def KPn (U V : Ud) (N n : Nat) : Prop := uq F254 U V ∧ (V.2.1 113 1 = U.2.1 113 1 ∧ V.2.1 113 2 = nI (N + 1)) ∧ (N + 1 ≤ (V.2.2.1 113 3).1 ∧ (U.2.2.1 113 3).1 ≤ (V.2.2.1 113 3).1 ∧ (V.2.2.1 113 3).1 ≤ max (U.2.2.1 113 3).1 (2 * N)) ∧ (∀ j, j < N → (V.2.2.1 113 3).2 j = (U.2.2.1 113 3).2 j) ∧ (V.2.2.1 113 3).2 N = -1 - nI n ∧ V.2.2.1 113 4 = U.2.2.1 113 4 ∧ V.2.2.2.2.2 = U.2.2.2.2.2
def frm (us ln fr : Nat) : Prop := (us % 8192 + ln + 1 ≤ 8192 ∧ fr = us) ∨ (¬ us % 8192 + ln + 1 ≤ 8192 ∧ fr = us + 8192 - us % 8192)
theorem kp_s (hq : uq F254 U X) (hL : N + 1 ≤ (X.2.2.1 113 3).1 ∧ (U.2.2.1 113 3).1 ≤ (X.2.2.1 113 3).1 ∧ (X.2.2.1 113 3).1 ≤ max (U.2.2.1 113 3).1 (2 * N)) (hj : ∀ j, j < N → (X.2.2.1 113 3).2 j = (U.2.2.1 113 3).2 j) (h4 : X.2.2.1 113 4 = U.2.2.1 113 4) (hl : X.2.2.2.2.1 117 = U.2.2.2.2.1 117) (hc : X.2.2.2.2.2 114 (fr / 8192) = some (8192, f0)) (hf : ∀ f1, U.2.2.2.2.2 114 (fr / 8192) = some (8192, f1) → f0 = f1) (ho : ∀ a c, ¬ (a = 114 ∧ c = fr / 8192) → X.2.2.2.2.2 a c = U.2.2.2.2.2 a c) (hw : w0 = ((U.2.2.2.2.1 117 0) ||| ((((U.2.2.1 113 4).2 hd).toInt64 + 1) <<< ((26 : Int32).toInt64 &&& 63)))) : KPs U (upI (upI (upA (upA (upQ (upL X 117 0 w0) 114 (fr / 8192) (fr % 8192) (fun j => (upL X 117 0 w0).2.2.2.2.1 117 (0 + j)) (ln + 1)) 113 3 N (nI fr)) 113 4 hd (nI N)) 113 1 (nI ((fr + ln) + 1))) 113 2 (nI (N + 1))) N fr ln hd := by
  have hpool : (upI (upI (upA (upA (upQ (upL X 117 0 w0) 114 (fr / 8192) (fr % 8192) (fun j => (upL X 117 0 w0).2.2.2.2.1 117 (0 + j)) (ln + 1)) 113 3 N (nI fr)) 113 4 hd (nI N)) 113 1 (nI ((fr + ln) + 1))) 113 2 (nI (N + 1))).2.2.2.2.2 114 (fr / 8192) = some (8192, fun s => if fr % 8192 ≤ s ∧ s < fr % 8192 + (ln + 1) then (upL X 117 0 w0).2.2.2.2.1 117 (0 + (s - fr % 8192)) else f0 s) := upQ_at (V := upL X 117 0 w0) (p := 114) (i := fr / 8192) (b := fr % 8192) (g := fun j => (upL X 117 0 w0).2.2.2.2.1 117 (0 + j)) (k := ln + 1) (n := 8192) (f := f0) hc
  refine ⟨(((((hq.L rfl).Q rfl).A rfl).A rfl).I rfl).I rfl, ⟨rfl, rfl⟩, hL, fun j h => ?_, if_pos rfl, fun k => ?_, ⟨_, hpool, fun f1 h1 s hs => ?_, ?_, fun j h1 h2 => ?_⟩, fun a c h => ?_⟩
  · show (if j = N then nI fr else (X.2.2.1 113 3).2 j) = _
    rw [if_neg (by omega)]
    exact hj j h
  · show (if k = hd then nI N else (X.2.2.1 113 4).2 k) = _
    rw [h4]
  · show (if fr % 8192 ≤ s ∧ s < fr % 8192 + (ln + 1) then _ else f0 s) = f1 s
    rw [if_neg hs, hf f1 h1]
  · show (if fr % 8192 ≤ fr % 8192 ∧ fr % 8192 < fr % 8192 + (ln + 1) then (upL X 117 0 w0).2.2.2.2.1 117 (0 + (fr % 8192 - fr % 8192)) else f0 (fr % 8192)) = _
    rw [if_pos ⟨Nat.le_refl _, by omega⟩, Nat.sub_self, ← hw]
    rfl
  · show (if fr % 8192 ≤ fr % 8192 + j ∧ fr % 8192 + j < fr % 8192 + (ln + 1) then (upL X 117 0 w0).2.2.2.2.1 117 (0 + (fr % 8192 + j - fr % 8192)) else f0 (fr % 8192 + j)) = _
    rw [if_pos ⟨by omega, by omega⟩, show 0 + (fr % 8192 + j - fr % 8192) = j by omega, upL_at]
    show (if j = 0 then w0 else X.2.2.2.2.1 117 j) = _
    rw [if_neg (by omega), hl]
  · show (upQ (upL X 117 0 w0) 114 (fr / 8192) (fr % 8192) (fun j => (upL X 117 0 w0).2.2.2.2.1 117 (0 + j)) (ln + 1)).2.2.2.2.2 a c = _
    rw [upQ_ne h]
    exact ho a c h
theorem kp_n (hq : uq F254 U X) (hL : N + 1 ≤ (X.2.2.1 113 3).1 ∧ (U.2.2.1 113 3).1 ≤ (X.2.2.1 113 3).1 ∧ (X.2.2.1 113 3).1 ≤ max (U.2.2.1 113 3).1 (2 * N)) (hj : ∀ j, j < N → (X.2.2.1 113 3).2 j = (U.2.2.1 113 3).2 j) (h1 : X.2.1 113 1 = U.2.1 113 1) (h4 : X.2.2.1 113 4 = U.2.2.1 113 4) (hp : X.2.2.2.2.2 = U.2.2.2.2.2) : KPn U (upI (upA X 113 3 N ((-1 : Int32) - (nI n))) 113 2 (nI (N + 1))) N n := by
  refine ⟨(hq.A rfl).I rfl, ⟨h1, rfl⟩, hL, fun j h => ?_, if_pos rfl, h4, hp⟩
  show (if j = N then (-1 : Int32) - (nI n) else (X.2.2.1 113 3).2 j) = _
  rw [if_neg (by omega)]
  exact hj j h
theorem kp_g {z Ls : Nat} (hLs : (U.2.2.1 113 3).1 = Ls) (hNL : N = Ls) (h1 : 1 ≤ Ls) : uq F254 U (upF (upN U 113 3 (2 * Ls) z) 113 3 0 (U.2.2.1 113 3).2 Ls) ∧ (N + 1 ≤ ((upF (upN U 113 3 (2 * Ls) z) 113 3 0 (U.2.2.1 113 3).2 Ls).2.2.1 113 3).1 ∧ (U.2.2.1 113 3).1 ≤ ((upF (upN U 113 3 (2 * Ls) z) 113 3 0 (U.2.2.1 113 3).2 Ls).2.2.1 113 3).1 ∧ ((upF (upN U 113 3 (2 * Ls) z) 113 3 0 (U.2.2.1 113 3).2 Ls).2.2.1 113 3).1 ≤ max (U.2.2.1 113 3).1 (2 * N)) ∧ ∀ j, j < N → ((upF (upN U 113 3 (2 * Ls) z) 113 3 0 (U.2.2.1 113 3).2 Ls).2.2.1 113 3).2 j = (U.2.2.1 113 3).2 j := by
  rw [upG_at]
  refine ⟨((uq.refl F254 U).N rfl rfl).F rfl, ⟨?_, ?_, ?_⟩, fun j hj => ?_⟩
  · show N + 1 ≤ 2 * Ls
    omega
  · show (U.2.2.1 113 3).1 ≤ 2 * Ls
    omega
  · show 2 * Ls ≤ _
    omega
  · show (if j < Ls then (U.2.2.1 113 3).2 j else 0) = _
    rw [if_pos (by omega)]
theorem kp_f {m : Nat} {H H1 : mu_H} {C : Nat → Nat} {x : Int32} (h : x = nI N ∧ um m H1 ∧ ur m C H H1 ∧ ∃ fr, frm us ln fr ∧ ((fr / 8192 < 184 ∧ KPs U (ud m H1) N fr ln hd) ∨ (184 ≤ fr / 8192 ∧ KPn U (ud m H1) N n))) : x = nI N ∧ um m H1 ∧ ur m C H H1 ∧ uq F254 U (ud m H1) ∧ ∃ fr, frm us ln fr ∧ ((fr / 8192 < 184 ∧ KPs U (ud m H1) N fr ln hd) ∨ (184 ≤ fr / 8192 ∧ KPn U (ud m H1) N n)) := by
  obtain ⟨a, b, c, fr, h1, h2⟩ := h
  exact ⟨a, b, c, h2.elim (fun z => z.2.1) (fun z => z.2.1), fr, h1, h2⟩
theorem st_keepK (h : um m H) (e : ud m H = U) (hus : U.2.1 113 1 = nI us) (hus2 : us ≤ 1507328) (hN : U.2.1 113 2 = nI N) (hN1 : N ≤ (U.2.2.1 113 3).1) (hL1 : 1 ≤ (U.2.2.1 113 3).1) (hL2 : (U.2.2.1 113 3).1 ≤ 8388608) (hch : ∀ c, c < 184 → U.2.2.2.2.2 114 c = none ∨ ∃ f, U.2.2.2.2.2 114 c = some (8192, f)) (hln : ln ≤ 256) (hhd : hd < 4096) (hn : n < 32768) : mu_TI (mu_D (d + 3)) 254 [.inr (.inr (some 113)), .inl (nI ln), .inl (nI hd), .inl (nI n)] H (fun x H1 => x = nI N ∧ um m H1 ∧ ur m C H H1 ∧ uq F254 U (ud m H1) ∧ ∃ fr, frm us ln fr ∧ ((fr / 8192 < 184 ∧ KPs U (ud m H1) N fr ln hd) ∨ (184 ≤ fr / 8192 ∧ KPn U (ud m H1) N n))) := by
  have L0 : N + 1 ≤ (U.2.2.1 113 3).1 → N + 1 ≤ (U.2.2.1 113 3).1 ∧ (U.2.2.1 113 3).1 ≤ (U.2.2.1 113 3).1 ∧ (U.2.2.1 113 3).1 ≤ max (U.2.2.1 113 3).1 (2 * N) := fun z => ⟨z, Nat.le_refl _, by omega⟩
  by_cases hsk : us % 8192 + ln + 1 ≤ 8192
  · by_cases hc : us / 8192 < 184
    · rcases hch _ hc with hz | ⟨f, hz⟩
      · by_cases hNL : N < (U.2.2.1 113 3).1
        · exact (st_keep0n (C := C) h e hus hus2 hN rfl hNL (by omega) hln hhd hn hsk hz hc).imp (fun x H1 ⟨a, b, c, q⟩ => kp_f ⟨a, b, c, us, Or.inl ⟨hsk, rfl⟩, Or.inl ⟨hc, by rw [q]; exact kp_s ((uq.refl F254 U).Cp rfl) (L0 hNL) (fun _ _ => rfl) rfl rfl upC_at (fun f1 h1 => by rw [hz] at h1; cases h1) (fun a c h => upC_ne h) rfl⟩⟩)
        · obtain ⟨g1, g2, g3⟩ := kp_g (U := U) (N := N) (z := mu_z H) (Ls := (U.2.2.1 113 3).1) rfl (by omega) hL1
          exact (st_keepG0n (C := C) h e hus hus2 hN rfl (by omega) hL1 hL2 hln hhd hn hsk hz hc).imp (fun x H1 ⟨a, b, c, q⟩ => kp_f ⟨a, b, c, us, Or.inl ⟨hsk, rfl⟩, Or.inl ⟨hc, by rw [q]; exact kp_s (g1.Cp rfl) g2 g3 rfl rfl upC_at (fun f1 h1 => by rw [hz] at h1; cases h1) (fun a c h => upC_ne h) rfl⟩⟩)
      · by_cases hNL : N < (U.2.2.1 113 3).1
        · exact (st_keep0s (C := C) h e hus hus2 hN rfl hNL (by omega) hln hhd hn hsk hz hc).imp (fun x H1 ⟨a, b, c, q⟩ => kp_f ⟨a, b, c, us, Or.inl ⟨hsk, rfl⟩, Or.inl ⟨hc, by rw [q]; exact kp_s (uq.refl F254 U) (L0 hNL) (fun _ _ => rfl) rfl rfl hz (fun f1 h1 => by rw [hz] at h1; exact (Prod.mk.inj (Option.some.inj h1)).2) (fun _ _ _ => rfl) rfl⟩⟩)
        · obtain ⟨g1, g2, g3⟩ := kp_g (U := U) (N := N) (z := mu_z H) (Ls := (U.2.2.1 113 3).1) rfl (by omega) hL1
          exact (st_keepG0s (C := C) h e hus hus2 hN rfl (by omega) hL1 hL2 hln hhd hn hsk hz hc).imp (fun x H1 ⟨a, b, c, q⟩ => kp_f ⟨a, b, c, us, Or.inl ⟨hsk, rfl⟩, Or.inl ⟨hc, by rw [q]; exact kp_s g1 g2 g3 rfl rfl hz (fun f1 h1 => by rw [hz] at h1; exact (Prod.mk.inj (Option.some.inj h1)).2) (fun _ _ _ => rfl) rfl⟩⟩)
    · by_cases hNL : N < (U.2.2.1 113 3).1
      · exact (st_keep0a (C := C) h e hus hus2 hN rfl hNL (by omega) hln hhd hn hsk (by omega)).imp (fun x H1 ⟨a, b, c, q⟩ => kp_f ⟨a, b, c, us, Or.inl ⟨hsk, rfl⟩, Or.inr ⟨by omega, by rw [q]; exact kp_n (uq.refl F254 U) (L0 hNL) (fun _ _ => rfl) rfl rfl rfl⟩⟩)
      · obtain ⟨g1, g2, g3⟩ := kp_g (U := U) (N := N) (z := mu_z H) (Ls := (U.2.2.1 113 3).1) rfl (by omega) hL1
        exact (st_keepG0a (C := C) h e hus hus2 hN rfl (by omega) hL1 hL2 hln hhd hn hsk (by omega)).imp (fun x H1 ⟨a, b, c, q⟩ => kp_f ⟨a, b, c, us, Or.inl ⟨hsk, rfl⟩, Or.inr ⟨by omega, by rw [q]; exact kp_n g1 g2 g3 rfl rfl rfl⟩⟩)
  · by_cases hc : (us + 8192 - us % 8192) / 8192 < 184
    · rcases hch _ hc with hz | ⟨f, hz⟩
      · by_cases hNL : N < (U.2.2.1 113 3).1
        · exact (st_keep1n (C := C) h e hus hus2 hN rfl hNL (by omega) hln hhd hn hsk hz hc).imp (fun x H1 ⟨a, b, c, q⟩ => kp_f ⟨a, b, c, us + 8192 - us % 8192, Or.inr ⟨hsk, rfl⟩, Or.inl ⟨hc, by rw [q]; exact kp_s ((uq.refl F254 U).Cp rfl) (L0 hNL) (fun _ _ => rfl) rfl rfl upC_at (fun f1 h1 => by rw [hz] at h1; cases h1) (fun a c h => upC_ne h) rfl⟩⟩)
        · obtain ⟨g1, g2, g3⟩ := kp_g (U := U) (N := N) (z := mu_z H) (Ls := (U.2.2.1 113 3).1) rfl (by omega) hL1
          exact (st_keepG1n (C := C) h e hus hus2 hN rfl (by omega) hL1 hL2 hln hhd hn hsk hz hc).imp (fun x H1 ⟨a, b, c, q⟩ => kp_f ⟨a, b, c, us + 8192 - us % 8192, Or.inr ⟨hsk, rfl⟩, Or.inl ⟨hc, by rw [q]; exact kp_s (g1.Cp rfl) g2 g3 rfl rfl upC_at (fun f1 h1 => by rw [hz] at h1; cases h1) (fun a c h => upC_ne h) rfl⟩⟩)
      · by_cases hNL : N < (U.2.2.1 113 3).1
        · exact (st_keep1s (C := C) h e hus hus2 hN rfl hNL (by omega) hln hhd hn hsk hz hc).imp (fun x H1 ⟨a, b, c, q⟩ => kp_f ⟨a, b, c, us + 8192 - us % 8192, Or.inr ⟨hsk, rfl⟩, Or.inl ⟨hc, by rw [q]; exact kp_s (uq.refl F254 U) (L0 hNL) (fun _ _ => rfl) rfl rfl hz (fun f1 h1 => by rw [hz] at h1; exact (Prod.mk.inj (Option.some.inj h1)).2) (fun _ _ _ => rfl) rfl⟩⟩)
        · obtain ⟨g1, g2, g3⟩ := kp_g (U := U) (N := N) (z := mu_z H) (Ls := (U.2.2.1 113 3).1) rfl (by omega) hL1
          exact (st_keepG1s (C := C) h e hus hus2 hN rfl (by omega) hL1 hL2 hln hhd hn hsk hz hc).imp (fun x H1 ⟨a, b, c, q⟩ => kp_f ⟨a, b, c, us + 8192 - us % 8192, Or.inr ⟨hsk, rfl⟩, Or.inl ⟨hc, by rw [q]; exact kp_s g1 g2 g3 rfl rfl hz (fun f1 h1 => by rw [hz] at h1; exact (Prod.mk.inj (Option.some.inj h1)).2) (fun _ _ _ => rfl) rfl⟩⟩)
    · by_cases hNL : N < (U.2.2.1 113 3).1
      · exact (st_keep1a (C := C) h e hus hus2 hN rfl hNL (by omega) hln hhd hn hsk (by omega)).imp (fun x H1 ⟨a, b, c, q⟩ => kp_f ⟨a, b, c, us + 8192 - us % 8192, Or.inr ⟨hsk, rfl⟩, Or.inr ⟨by omega, by rw [q]; exact kp_n (uq.refl F254 U) (L0 hNL) (fun _ _ => rfl) rfl rfl rfl⟩⟩)
      · obtain ⟨g1, g2, g3⟩ := kp_g (U := U) (N := N) (z := mu_z H) (Ls := (U.2.2.1 113 3).1) rfl (by omega) hL1
        exact (st_keepG1a (C := C) h e hus hus2 hN rfl (by omega) hL1 hL2 hln hhd hn hsk (by omega)).imp (fun x H1 ⟨a, b, c, q⟩ => kp_f ⟨a, b, c, us + 8192 - us % 8192, Or.inr ⟨hsk, rfl⟩, Or.inr ⟨by omega, by rw [q]; exact kp_n g1 g2 g3 rfl rfl rfl⟩⟩)
end Keeps
