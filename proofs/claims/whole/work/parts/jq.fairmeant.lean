/-! What is FAIR, and the STATES of a SPEC, without the machine's numbers -/
section FairMeant
variable {H H0 H1 : mu_H} {U V KU Xt : Ud} {m d P fb NN us nf nw nb kN ns sp : Nat} {C : Nat → Nat} {Y : Ts} {f od bs lv lc wa wn wi cl ro z me sa sN si : Nat → Nat} {es nm tm : Nat → Int32} {wk p : Nat → Bool} {S FS : Nat → Nat → Bool} {bo oid : Nat → Nat → Nat} {Gr : Nat → Nat → Prop} {al : Nat → Prop} {L4 L8 : Nat → Int64} {F : Uf}
theorem CRI.fair (h : CRI V m Y es P f od KU Xt ns sa sN si fb NN us S z p nf nm tm bs lv lc oid nw wa wn wi wk nb bo cl al ro Gr me kN FS L4 L8) : EGS (GOS Y KU Xt f P od) kN (fun f t => FS f t = true) = EGS (GOS Y KU Xt f P od) (Y 16).1 (fun fr s => s < pd f 0 P ∧ EVR Y KU f P od s ∧ FRv Y KU f P od fr s) := by
  have h7 := h.2.2.2.2.1
  have h8 := h.2.2.2.2.2
  have hk := h.1.1.2.2.1.1.2
  refine egs_fair (fun g hg => ?_) (fun fr hfr => ?_)
  · obtain ⟨fr, f1, f2⟩ := h8 g hg
    obtain ⟨i, i1, i2, i3⟩ := h7 fr f1
    have e : i = g := nI_inj (by omega) (by omega) (i2.symm.trans f2)
    rw [e] at i3
    exact ⟨fr, f1, i3⟩
  · obtain ⟨i, i1, -, i3⟩ := h7 fr hfr
    exact ⟨i, i1, i3⟩
/-- the STATES that have a SPEC, as the document means it -/
theorem CRI.spd (h : CRI V m Y es P f od KU Xt ns sa sN si fb NN us S z p nf nm tm bs lv lc oid nw wa wn wi wk nb bo cl al ro Gr me kN FS L4 L8) : (SPD Y (GOS Y KU Xt f P od) (EVS Y KU f P od) (EGS (GOS Y KU Xt f P od) kN (fun f t => FS f t = true) (EVS Y KU f P od)) kN (fun f t => FS f t = true) KU f P od sa sN si) = SPD Y (GOS Y KU Xt f P od) (EVS Y KU f P od) (EGS (GOS Y KU Xt f P od) (Y 16).1 (fun fr s => s < pd f 0 P ∧ EVR Y KU f P od s ∧ FRv Y KU f P od fr s) (EVS Y KU f P od)) (Y 16).1 (fun fr s => s < pd f 0 P ∧ EVR Y KU f P od s ∧ FRv Y KU f P od fr s) KU f P od sa sN si := by
  funext i s
  have e := h.fair
  unfold SPD
  rw [e, cts_fair e]
end FairMeant
