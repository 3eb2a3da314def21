/-! THE RELATION: a table that is there already has less in it -/
section FacAgain
variable {U V : Ud} {P N us nf spn bq qk r s t : Nat} {f bs lv z : Nat → Nat} {nm tm : Nat → Int32} {mk : Int32} {oid : Nat → Nat → Nat} {oi : Nat → Nat} {S S' : Nat → Nat → Bool} {p : Nat → Bool} {Q : Nat → Nat → Prop}
theorem upv_no {α : Type} {g : Nat → α} {n r : Nat} {v : α} (h : ¬ r = n) : upv g n v r = g r := if_neg h
theorem FAC.again (hF : FAC U P f nf nm tm bs lv oid N S p) (hqk : qk < nf) (hbq : bs qk = bq) (hmk : nm qk = mk) (hT : TBX U V N us S z p spn bq (pm mk f P) (fun c x => S (oid qk c) x = true ∧ Q c x)) (h4 : (V.2.2.1 129 4).1 = (U.2.2.1 129 4).1) (h24 : V.1 24 = U.1 24) (hdj : ∀ q, q < nf → ¬ q = qk → bs q + pm (nm q) f P ≤ bq ∨ bq + pm mk f P ≤ bs q) : ∃ (N' us' : Nat) (S' : Nat → Nat → Bool) (z' : Nat → Nat) (p' : Nat → Bool) (oi : Nat → Nat), SOK V N' us' S' z' p' ∧ FAC V P f nf nm tm bs lv (upv oid qk oi) N' S' p' ∧ (N ≤ N' ∧ N' ≤ N + pm mk f P) ∧ (us ≤ us' ∧ us' + 256 * (us / 8192) ≤ us + 256 * (us' / 8192) + pm mk f P * (spn + 1) ∧ N' + us ≤ N + us') ∧ (∀ j, j < N → S' j = S j ∧ p' j = p j) ∧ ∀ c, c < pm mk f P → ∀ x, S' (oi c) x = true ↔ S (oid qk c) x = true ∧ Q c x := by
  obtain ⟨hTp, hTo, N1, us1, S1, z1, p1, oi, hS1, hNb, hNS, hUb, hcl⟩ := hT
  obtain ⟨⟨hn, hnb, hl4⟩, hrows⟩ := hF
  refine ⟨N1, us1, S1, z1, p1, oi, hS1, ⟨⟨by rw [h24]; exact hn, hnb, by rw [h4]; exact hl4⟩, fun q hq => ?_⟩, hNb, hUb, fun j hj => ⟨(hNS j hj).1, (hNS j hj).2.2⟩, fun c hc => (hcl c hc).2.2.2⟩
  obtain ⟨rr, rT, rb, rc⟩ := hrows q hq
  refine ⟨by rw [h24]; exact rr, rT, by rw [h4]; exact rb, fun c hc => ?_⟩
  by_cases e1 : q = qk
  · rw [e1] at hc rc ⊢
    rw [upv_eq, hbq]
    rw [hmk] at hc rc
    obtain ⟨y1, y2, y3, y4⟩ := hcl c hc
    exact ⟨y1, y2, y3, fun x hx => (rc c hc).2.2.2 x ((y4 x).mp hx).1⟩
  · rw [upv_no e1]
    obtain ⟨y1, y2, y3, y4⟩ := rc c hc
    obtain ⟨w1, w2, w3⟩ := hNS (oid q c) y2
    have hd := hdj q hq e1
    exact ⟨(hTo _ (by omega)).trans y1, by omega, w3.trans y3, fun x hx => y4 x (by rw [← w1]; exact hx)⟩
/-- the rows behind a new table leave what they left, and the new one what its table has -/
theorem flv_put (hr : r < nf) (hx : oid r (ixz (nm r) f (dgzU f P s) P) < N) (hS : ∀ j, j < N → S' j = S j) {mk tk : Int32} : FLV P f S' (upv nm nf mk) (upv tm nf tk) (upv oid nf oi) r s t ↔ FLV P f S nm tm oid r s t := by
  unfold FLV
  rw [upv_ne hr, upv_ne hr, upv_ne hr, hS _ hx]
theorem flv_new (hP : P ≤ 14) (hs : s < pd f 0 P) {mk tk : Int32} : FLV P f S' (upv nm nf mk) (upv tm nf tk) (upv oid nf oi) nf s t ↔ S' (oi (pj mk f P P s)) (ixz tk f (dgzU f P t) P) = true := by
  unfold FLV
  rw [upv_eq, upv_eq, upv_eq, ixz_pj hs]
end FacAgain
