/-! READY: the branches -/
section ReadyBranches
variable {U V W X V1 V2 : Ud} {m P nb q ba bn bi n0 : Nat} {Y : Ts} {f od pa pn : Nat → Nat} {es : Nat → Int32} {G G2 G3 : Nat → Nat → Nat → Prop} {GF PN : Nat → Nat → Prop} {t t1 t2 : Tb}
theorem pnd_same (h15 : V.1 15 = U.1 15) (h98 : V.2.2.1 99 8 = U.2.2.1 99 8) {s u : Nat} : PND Y V f P od t s u ↔ PND Y U f P od t s u := by
  unfold PND
  exact forall_congr' (fun r => by rw [trs_same h15 h98])
/-- pieces split, then taken -/
theorem pass3 (e1 : V1.1 15 = X.1 15 ∧ V1.2.2.1 99 8 = X.2.2.1 99 8) (e2 : V2.1 15 = V1.1 15 ∧ V2.2.2.1 99 8 = V1.2.2.1 99 8) (h1 : ∀ s u, PND Y X f P od t1 s u ↔ PND Y X f P od t s u)
    (h2 : ∀ b s u, b < nb → s < pd f 0 P → u < pd f 0 P → ((G2 b s u ∧ (b + 1 = nb → PND Y V1 f P od t2 s u)) ↔ (G b s u ∧ (b + 1 = nb → PND Y V1 f P od t1 s u))))
    (h3 : ∀ b s u, b < nb → s < pd f 0 P → u < pd f 0 P → (G3 b s u ↔ G2 b s u ∧ (b + 1 = nb → PND Y V2 f P od t2 s u))) (b s u : Nat) (hb : b < nb) (hs : s < pd f 0 P) (hu : u < pd f 0 P) : G3 b s u ↔ G b s u ∧ (b + 1 = nb → PND Y X f P od t s u) := by
  rw [h3 b s u hb hs hu]
  have y := h2 b s u hb hs hu
  have z : (b + 1 = nb → PND Y V2 f P od t2 s u) ↔ (b + 1 = nb → PND Y V1 f P od t2 s u) := imp_congr Iff.rfl (pnd_same e2.1 e2.2)
  have z2 : (b + 1 = nb → PND Y V1 f P od t1 s u) ↔ (b + 1 = nb → PND Y X f P od t s u) := imp_congr Iff.rfl ((pnd_same e1.1 e1.2).trans (h1 s u))
  rw [z, y, z2]
/-- a branch has been taken -/
theorem BRX.pass (hX : BRX X Y es W P f od nb q ba bn bi n0 pa pn G GF PN) (hn : 1 < nb) (hG : ∀ b s u, b < nb → s < pd f 0 P → u < pd f 0 P → (G2 b s u ↔ G b s u ∧ (b + 1 = nb → PN s u))) (h22 : V.2.1 129 22 = X.2.1 129 22) (h27 : ∃ v, V.1 27 = tset 5 (X.1 27) (nI (nb - 1)) 4 v) (w15 : V.1 15 = W.1 15) (w98 : V.2.2.1 99 8 = W.2.2.1 99 8) : BRX V Y es V P f od nb q ba bn bi n0 pa pn G2 GF (fun _ _ => True) := by
  obtain ⟨⟨g1, g2, g3⟩, g4, g5, g6, g7, g8⟩ := hX
  obtain ⟨v, h27⟩ := h27
  have ht : ∀ a n s u, trs Y V f P od bi a n s u = trs Y W f P od bi a n s u := fun a n s u => by rw [trs_same w15 w98]
  have h0 : ∀ s u, s < pd f 0 P → u < pd f 0 P → (G2 0 s u ↔ G 0 s u) := fun s u hs hu => by
    rw [hG 0 s u (by omega) hs hu]
    exact ⟨fun y => y.1, fun y => ⟨y, fun z => by omega⟩⟩
  refine ⟨⟨h22.trans g1, ?_, ?_⟩, fun b b1 b2 => ?_, g5, fun s u => ?_, fun s u hs hu => ?_, fun b s u b1 b2 hs hu => ?_⟩
  · rw [h27, tsx_c (by omega)]
    exact g2
  · rw [h27, tsx_1]
    exact g3
  · rw [h27, tsx_c (by omega), tsx_c (by omega)]
    exact g4 b b1 b2
  · rw [ht, g6 s u]
    simp only [ht]
  · rw [ht, g7 s u hs hu, h0 s u hs hu]
  · rw [ht, h0 s u hs hu, ← g8 b s u b1 b2 hs hu, hG b s u b2 hs hu]
    exact ⟨fun y => y.1, fun y => ⟨y, fun _ => trivial⟩⟩
end ReadyBranches
