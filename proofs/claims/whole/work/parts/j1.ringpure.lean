/-! A RING, without the machine: legs from FAIRNESS to FAIRNESS, and back -/
/-- how far a ring has come: how many STATES are told, which, where it began, which leg is next -/
abbrev RGT : Type := Nat × (Nat → Nat) × Nat × Nat
def rgx (tr : Nat → Nat) (tc : Nat) (W : Nat → Nat) : Nat → Nat := fun j => if j < tc then tr j else W (j - tc + 1)
/-- where the next leg leads -/
def RGG (lg : Nat) (g : Nat → Nat → Prop) (Z : Nat → Prop) (x : RGT) (t : Nat) : Prop := (x.2.2.2 < lg ∧ g x.2.2.2 t ∧ Z t) ∨ (x.2.2.2 = lg ∧ t = x.2.1 x.2.2.1)
/-- a leg is done, or no way leads back and it begins anew -/
def RGS (G : Nat → Nat → Prop) (Z : Nat → Prop) (lg : Nat) (g : Nat → Nat → Prop) (x y : RGT) : Prop :=
  (x.2.2.2 < lg ∧ ∃ n W, LEA G Z (RGG lg g Z x) (x.2.1 (x.1 - 1)) n W ∧ y = (x.1 + n, rgx x.2.1 x.1 W, x.2.2.1, x.2.2.2 + 1)) ∨ (x.2.2.2 = lg ∧ (∀ n W, ¬ PTH G Z (RGG lg g Z x) (x.2.1 (x.1 - 1)) n W) ∧ y = (x.1, x.2.1, x.1 - 1, 0))
/-- by legs that keep within the limit -/
def RGR (G : Nat → Nat → Prop) (Z : Nat → Prop) (lg : Nat) (g : Nat → Nat → Prop) (x y : RGT) : Prop := ∀ S : RGT → Prop, S x → (∀ a b, S a → RGS G Z lg g a b → b.1 ≤ 2000 → S b) → S y
/-- how a ring ends: it is closed, or it is too long -/
def RGC (G : Nat → Nat → Prop) (Z : Nat → Prop) (lg : Nat) (g : Nat → Nat → Prop) (x : RGT) (many : Nat) (tr : Nat → Nat) (bg : Nat) : Prop := x.2.2.2 = lg ∧ bg = x.2.2.1 ∧ ∃ n W, LEA G Z (RGG lg g Z x) (x.2.1 (x.1 - 1)) n W ∧ many = x.1 + (n - 1) ∧ tr = rgx x.2.1 x.1 W
def RGB (G : Nat → Nat → Prop) (Z : Nat → Prop) (lg : Nat) (g : Nat → Nat → Prop) (x : RGT) : Prop := x.2.2.2 < lg ∧ ∃ n W, LEA G Z (RGG lg g Z x) (x.2.1 (x.1 - 1)) n W ∧ 2000 < x.1 + n
/-- what is told is in the set, and GOES -/
def RGI (G : Nat → Nat → Prop) (Z : Nat → Prop) (lg : Nat) (x : RGT) : Prop := (1 ≤ x.1 ∧ x.2.2.1 < x.1 ∧ x.2.2.2 ≤ lg) ∧ (∀ j, j < x.1 → Z (x.2.1 j)) ∧ ∀ j, j + 1 < x.1 → G (x.2.1 j) (x.2.1 (j + 1))
section RingPure
variable {G : Nat → Nat → Prop} {Z q p : Nat → Prop} {g Fs : Nat → Nat → Prop} {lg nf s t many bg f : Nat} {x y z : RGT} {tr W : Nat → Nat}
theorem RGR.refl (x : RGT) : RGR G Z lg g x x := fun _ h _ => h
theorem RGR.snoc (h : RGR G Z lg g x y) (hs : RGS G Z lg g y z) (hz : z.1 ≤ 2000) : RGR G Z lg g x z := fun S s1 s2 => s2 y z (h S s1 s2) hs hz
theorem EGS.egz : EGZ G nf Fs p (EGS G nf Fs p) := by
  intro z hz
  obtain ⟨Z, hZ, hzz⟩ := hz
  have hin : ∀ x, Z x → EGS G nf Fs p x := fun x hx => ⟨Z, hZ, hx⟩
  obtain ⟨k1, ⟨t, k2, k3⟩, k4⟩ := hZ z hzz
  refine ⟨k1, ⟨t, k2, hin t k3⟩, fun f hf => ?_⟩
  obtain ⟨u, w1, w2⟩ := k4 f hf
  exact ⟨u, w1, w2.mono hin (fun x hx => ⟨hin x hx.1, hx.2⟩)⟩
theorem eus_pth (h : EUS G Z q t) : ∀ s, G s t → ∃ n W, PTH G Z q s n W := by
  refine h (fun t => ∀ s, G s t → ∃ n W, PTH G Z q s n W) (fun x hx s hs => ?_) (fun x y hx hg hy s hs => ?_)
  · refine ⟨1, fun j => if j = 0 then s else x, Nat.le_refl _, if_pos rfl, fun j hj => ?_, fun j h0 h1 => absurd h0 (by omega), ?_⟩
    · have e0 : j = 0 := by omega
      subst e0
      show G (if 0 = 0 then s else x) (if 0 + 1 = 0 then s else x)
      rw [if_pos rfl, if_neg (by omega)]
      exact hs
    · show q (if 1 = 0 then s else x)
      rw [if_neg (by omega)]
      exact hx
  · obtain ⟨n, W, w1, w2, w3, w4, w5⟩ := hy x hg
    refine ⟨n + 1, fun j => if j = 0 then s else W (j - 1), by omega, if_pos rfl, fun j hj => ?_, fun j h0 h1 => ?_, ?_⟩
    · show G (if j = 0 then s else W (j - 1)) (if j + 1 = 0 then s else W (j + 1 - 1))
      rw [if_neg (show ¬ j + 1 = 0 by omega), Nat.add_sub_cancel]
      by_cases e0 : j = 0
      · rw [if_pos e0, e0, w2]; exact hs
      · rw [if_neg e0]
        have e1 := w3 (j - 1) (by omega)
        rw [show j - 1 + 1 = j by omega] at e1
        exact e1
    · show Z (if j = 0 then s else W (j - 1))
      rw [if_neg (by omega)]
      by_cases e1 : j = 1
      · rw [e1]
        show Z (W 0)
        rw [w2]; exact hx
      · exact w4 (j - 1) (by omega) (by omega)
    · show q (if n + 1 = 0 then s else W (n + 1 - 1))
      rw [if_neg (by omega), Nat.add_sub_cancel]
      exact w5
/-- out of each STATE of the set a way leads to each FAIRNESS, within the set -/
theorem egs_way (hs : EGS G nf Fs p s) (hf : f < nf) : ∃ n W, PTH G (EGS G nf Fs p) (fun x => Fs f x ∧ EGS G nf Fs p x) s n W := by
  obtain ⟨t, w1, w2⟩ := (EGS.egz s hs).2.2 f hf
  exact eus_pth (w2.mono (fun x hx => hx) (fun x hx => ⟨hx.2, hx.1⟩)) s w1
theorem egs_step (hs : EGS G nf Fs p s) : ∃ n W, PTH G (EGS G nf Fs p) (EGS G nf Fs p) s n W := by
  obtain ⟨t, w1, w2⟩ := (EGS.egz s hs).2.1
  exact eus_pth (EUS.base w2) s w1
theorem rgx_lt {tc j : Nat} (h : j < tc) : rgx tr tc W j = tr j := if_pos h
theorem rgx_ge {tc j : Nat} (h : ¬ j < tc) : rgx tr tc W j = W (j - tc + 1) := if_neg h
theorem rgx_pth {To : Nat → Prop} {tc n : Nat} (htc : 1 ≤ tc) (hp : PTH G Z To (tr (tc - 1)) n W) (hT : To (W n) → Z (W n)) (hz : ∀ j, j < tc → Z (tr j)) (hg : ∀ j, j + 1 < tc → G (tr j) (tr (j + 1))) : (∀ j, j < tc + n → Z (rgx tr tc W j)) ∧ ∀ j, j + 1 < tc + n → G (rgx tr tc W j) (rgx tr tc W (j + 1)) := by
  obtain ⟨w1, w2, w3, w4, w5⟩ := hp
  refine ⟨fun j hj => ?_, fun j hj => ?_⟩
  · by_cases c : j < tc
    · rw [rgx_lt c]; exact hz j c
    · rw [rgx_ge c]
      by_cases c2 : j - tc + 1 = n
      · rw [c2]; exact hT w5
      · exact w4 _ (by omega) (by omega)
  · by_cases c : j + 1 < tc
    · rw [rgx_lt c, rgx_lt (by omega)]; exact hg j c
    · rw [rgx_ge c]
      by_cases c2 : j < tc
      · rw [rgx_lt c2, show j + 1 - tc + 1 = 0 + 1 by omega, show j = tc - 1 by omega]
        have e := w3 0 (by omega)
        rw [w2] at e
        exact e
      · rw [rgx_ge c2, show j + 1 - tc + 1 = (j - tc + 1) + 1 by omega]
        exact w3 _ (by omega)
theorem RGI.step (h : RGI G Z lg x) (hs : RGS G Z lg g x y) : RGI G Z lg y := by
  obtain ⟨⟨h1, h2, h3⟩, hz, hg⟩ := h
  rcases hs with ⟨ha, n, W, hL, e⟩ | ⟨ha, hn, e⟩
  · subst e
    have hp := hL.1
    have hn := hp.1
    obtain ⟨r1, r2⟩ := rgx_pth (tr := x.2.1) h1 hp (fun y => y.elim (fun y => y.2.2) (fun y => absurd y.1 (by omega))) hz hg
    refine ⟨⟨?_, ?_, ?_⟩, r1, r2⟩
    · show 1 ≤ x.1 + n; omega
    · show x.2.2.1 < x.1 + n; omega
    · show x.2.2.2 + 1 ≤ lg; omega
  · subst e
    refine ⟨⟨h1, ?_, ?_⟩, hz, hg⟩
    · show x.1 - 1 < x.1; omega
    · exact Nat.zero_le _
/-- a closed ring GOES -/
theorem RGC.goes (h : RGI G Z lg x) (hc : RGC G Z lg g x many tr bg) : (1 ≤ many ∧ bg < many) ∧ (∀ j, j < many → Z (tr j)) ∧ (∀ j, j + 1 < many → G (tr j) (tr (j + 1))) ∧ G (tr (many - 1)) (tr bg) := by
  obtain ⟨⟨h1, h2, h3⟩, hz, hg⟩ := h
  obtain ⟨ha, rfl, n, W, hL, rfl, rfl⟩ := hc
  have hp := hL.1
  have hn := hp.1
  have hTo : W n = x.2.1 x.2.2.1 := hp.2.2.2.2.elim (fun y => absurd y.1 (by omega)) (fun y => y.2)
  obtain ⟨r1, r2⟩ := rgx_pth (tr := x.2.1) h1 hp (fun _ => by rw [hTo]; exact hz _ h2) hz hg
  refine ⟨⟨by omega, by omega⟩, fun j hj => r1 j (by omega), fun j hj => r2 j (by omega), ?_⟩
  have e := r2 (x.1 + (n - 1) - 1) (by omega)
  rw [show x.1 + (n - 1) - 1 + 1 = x.1 + n - 1 by omega, rgx_ge (show ¬ x.1 + n - 1 < x.1 by omega), show x.1 + n - 1 - x.1 + 1 = n by omega, hTo] at e
  rw [rgx_lt (j := x.2.2.1) h2]
  exact e
end RingPure
