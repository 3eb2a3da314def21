/-! from ready to drive -/
section ReadyDrive
variable {Xr XV V X : Ud} {m P fb nf nw nb N us tl hh wd : Nat} {Y : Ts} {f od bs lv lc wa wn wi cl ro z qu : Nat → Nat} {es : Nat → Int32} {nm tm : Nat → Int32} {wk p : Nat → Bool} {S : Nat → Nat → Bool} {bo oid : Nat → Nat → Nat} {Gr : Nat → Nat → Prop} {al : Nat → Prop}
theorem rd_start (hR : RDX Xr m od Y es P f fb (pd f 0 P) Gr N us S z p nf nm tm bs lv lc oid nw wa wn wi wk nb bo cl al ro) (hq1 : uq F337 Xr XV) (hq2 : uq F364 XV V) (hwd : wd = (pd f 0 P + 63) / 64)
    (hl : 7 * (pd f 0 P + 4) ≤ (XV.2.2.1 147 10).1 ∧ lwh 7 (XV.2.2.1 147 10).1 ∧ 1 * (pd f 0 P + 4) ≤ (XV.2.2.1 147 11).1 ∧ lwh 1 (XV.2.2.1 147 11).1 ∧ 1 * (pd f 0 P + 4) ≤ (XV.2.2.1 147 12).1 ∧ lwh 1 (XV.2.2.1 147 12).1 ∧ 1 * (pd f 0 P + 4) ≤ (XV.2.2.1 147 13).1 ∧ lwh 1 (XV.2.2.1 147 13).1)
    (hm1 : ∀ r, r < N - fb + 1 → (XV.2.2.1 147 10).2 (r * 7 + 0) = nI (pzz ro r (pd f 0 P))) (hm2 : ∀ s, s < pd f 0 P → (XV.2.2.1 147 11).2 (psz ro (pd f 0 P) s) = nI s)
    (h14 : V.2.1 147 14 = 0) (hgo : V.2.2.2.1 147 8 = none) (h150 : ∀ i, i < wd → V.2.2.2.2.1 150 i = XV.2.2.2.2.1 124 i &&& (XV.2.2.2.2.1 125 i ^^^ (-1 : Int64)))
    (hB4 : ∀ s, s < 64 * wd → bts (XV.2.2.2.2.1 124) s = true → s < pd f 0 P) (hB5 : ∀ s, s < 64 * wd → bts (XV.2.2.2.2.1 125) s = true → s < pd f 0 P)
    (x149 : ∀ s, s < pd f 0 P → (bts (X.2.2.2.2.1 149) s = true ↔ bts (XV.2.2.2.2.1 125) s = true)) (hX0 : ∀ r, r < N - fb → (X.2.2.1 147 10).2 (r * 7 + 1) = 0) (hX7 : ∀ j, ¬ j % 7 = 1 → (X.2.2.1 147 10).2 j = (XV.2.2.1 147 10).2 j)
    (h18 : V.2.1 147 18 = nI tl) (hqu : ∀ i, i < tl → (V.2.2.1 147 12).2 i = nI (qu i) ∧ qu i < pd f 0 P ∧ bts (XV.2.2.2.2.1 125) (qu i) = true) (hqa : ∀ x, x < pd f 0 P → bts (XV.2.2.2.2.1 125) x = true → ∃ i, i < tl ∧ qu i = x) (hqr : ∀ i j, i < j → j < tl → qu i < qu j)
    (hhh : hh ≤ tl) (h17 : V.2.1 147 17 = nI hh) (hc : ∃ c, V.2.1 147 16 = nI c ∧ c ≤ wd ∧ ∀ i, i < c → V.2.2.2.2.1 150 i = 0) (hOP : OPW X V (fun _ => 0) ro qu 0 hh) (hend : V.2.1 147 15 = -1 → hh = tl ∨ ∀ i, i < wd → V.2.2.2.2.1 150 i = 0)
    (he1 : V.2.1 147 15 = -1 → ∀ s, s < 16384 → (bts (V.2.2.2.2.1 149) s = true ↔ bts (X.2.2.2.2.1 149) s = true ∨ ∃ i, i < tl ∧ qu i = s)) (he2 : ¬ V.2.1 147 15 = -1 → V.2.2.2.2.1 149 = X.2.2.2.2.1 149) :
    RDX V m od Y es P f fb (pd f 0 P) Gr N us S z p nf nm tm bs lv lc oid nw wa wn wi wk nb bo cl al ro ∧ (∃ me : Nat → Nat, GRB V (pd f 0 P) (N - fb) wd ro (fun r => pzz ro r (pd f 0 P)) me) ∧ BFK V (fun s => s < pd f 0 P ∧ bts (XV.2.2.2.2.1 124) s = true) (fun s => s < pd f 0 P ∧ bts (XV.2.2.2.2.1 125) s = true) (fun s t => s < pd f 0 P ∧ S (fb + ro s) t = true) ro (pd f 0 P) (N - fb) wd (pd f 0 P + 1) := by
  have hK := hR.1.1.1
  have hT : pd f 0 P ≤ 16384 := hK.1.2.2.2.1.2.1
  have hTw : pd f 0 P ≤ 64 * wd := by omega
  have hfN := hR.2.1.2.1
  have hNq := hR.2.1.2.2.1
  have hRV : RDX XV m od Y es P f fb (pd f 0 P) Gr N us S z p nf nm tm bs lv lc oid nw wa wn wi wk nb bo cl al ro := hR.keep4 hq1 rfl rfl rfl (congrFun (hq1.2.2.2.2.2 rfl) 114)
  have h6 := hRV.2.2.1.1
  have hrow := hRV.2.2.2.2.2.1
  have hrx : ∀ s, s < pd f 0 P → (XV.2.2.1 129 6).2 s = nI (ro s) ∧ ro s < N - fb := fun s hs => ⟨(hrow s hs).1, by have := (hrow s hs).2.1; omega⟩
  obtain ⟨me, hG⟩ := grb_begin (wn := wd) (R := N - fb) ((hq1.i 99 12 rfl).trans (by rw [hwd]; exact hK.1.1.2.2.2)) ((hq1.i 99 11 rfl).trans hK.1.1.2.2.1) hwd hT h6.1 h6.2 hrx (by omega) hl hm1 hm2
  have hnk : NK XV V := by
    rcases hOP with ⟨-, -, h10⟩ | ⟨k2, -, -, -, -, -, h10⟩
    · intro j hj
      rw [h10]
      exact hX7 j (by omega)
    · intro j hj
      rw [h10]
      exact (if_neg (by omega)).trans (hX7 j (by omega))
  have hB : BFQ V (fun s => s < pd f 0 P ∧ bts (XV.2.2.2.2.1 124) s = true) (fun s => s < pd f 0 P ∧ bts (XV.2.2.2.2.1 125) s = true) (fun s t => s < pd f 0 P ∧ S (fb + ro s) t = true) ro qu (pd f 0 P) (N - fb) wd tl hh := BFQ.begin (U := XV) (X := X) (fun s hs => (hrx s hs).2) h18 hhh h17 hqu hqa hqr (fun s => Iff.rfl) (fun s hs => ⟨fun y => y.2, fun y => ⟨hB4 s hs y, y⟩⟩) hB5 h150 hTw hc hX0 hOP
  refine ⟨hRV.keep4 hq2 rfl rfl rfl (congrFun (hq2.2.2.2.2.2 rfl) 114), ⟨me, hG.keep hq2 rfl hnk⟩, qu, tl, hh, hB, h14, hgo, ?_⟩
  have hin : ∀ s, s < pd f 0 P → bts (X.2.2.2.2.1 149) s = true → ∃ i, i < tl ∧ qu i = s := fun s hs y => hqa s hs ((x149 s hs).mp y)
  by_cases hw : V.2.1 147 15 = -1
  · refine Or.inl ⟨hw, fun s hs => ?_⟩
    have hf := hB.fin hw (fun i hi => by have := (hrx _ (hqu i hi).2.1).2; have := hR.1.1.2.2.2.2.2.2.1.1.2.2.2; omega) (hend hw) (fun s t y => by
      have y2 := ((hrow s y.1).2.2 t).mp y.2
      exact ⟨y2.1, y2.2.1⟩) (fun s y => by have := y.1; omega) s
    rw [hf, he1 hw s (by omega)]
    exact ⟨fun y => y.elim (fun w => hin s hs w) id, Or.inr⟩
  · exact Or.inr ⟨by omega, hw, fun s hs y => hin s hs (by rw [← he2 hw]; exact y)⟩
end ReadyDrive
