/-! THE RELATION: a row more counts for the last branch -/
section More
variable {U V : Ud} {m P N nf nw nb b c tot q s t a n i : Nat} {Y : Ts} {f od wa wn wi bs lv : Nat → Nat} {wk : Nat → Bool} {bb : Bool} {es : Nat → Int32} {nm tm : Nat → Int32} {mk tk x3 x4 : Int32} {bo oid : Nat → Nat → Nat} {oi : Nat → Nat} {S S' : Nat → Nat → Bool} {p : Nat → Bool} {Q : Nat → Nat → Prop}
theorem BOK.more (h : BOK nb bo c tot) (ht : tot < 67108864) : BOK nb bo c (tot + 1) := by
  refine ⟨by omega, fun b h1 h2 => ?_⟩
  obtain ⟨y1, y2, y3⟩ := h.2 b h1 h2
  unfold enz at *
  by_cases e : b + 1 < nb
  · rw [if_pos e] at *
    exact ⟨y1, y2, by omega⟩
  · rw [if_neg e] at *
    exact ⟨y1, by omega, Nat.le_refl _⟩
theorem fin_more (hb : BIN nb b) (h : BOK nb bo c tot) : fin nb bo b c (tot + 1) q ↔ fin nb bo b c tot q ∨ (q = tot ∧ b + 1 = nb) := by
  unfold fin cmz enz
  rcases hb with ⟨h1, h2⟩ | ⟨h1, h2⟩
  · rw [if_neg (show ¬ 1 < nb by omega), if_neg (show ¬ 1 < nb by omega)]
    omega
  · have hb1 : 1 < nb := by omega
    rw [if_pos hb1, if_pos hb1]
    obtain ⟨y1, y2, y3⟩ := h.2 b h1 h2
    unfold enz at y2 y3
    by_cases e : b + 1 < nb
    · rw [if_pos e, if_pos e]
      constructor
      · exact fun y => Or.inl y
      · rintro (y | y)
        · exact y
        · omega
    · rw [if_neg e] at y2 y3
      rw [if_neg e, if_neg e]
      constructor
      · rintro (y | ⟨z1, z2, z3⟩)
        · exact Or.inl (Or.inl y)
        · by_cases e2 : q = tot
          · exact Or.inr ⟨e2, by omega⟩
          · exact Or.inl (Or.inr ⟨z1, z2, by omega⟩)
      · rintro ((y | ⟨z1, z2, z3⟩) | ⟨z1, z2⟩)
        · exact Or.inl y
        · exact Or.inr ⟨z1, z2, by omega⟩
        · exact Or.inr ⟨h1, by omega, by omega⟩
/-- a new table: what is left of a step by a branch -/
theorem rows_put (hF : FAC U P f nf nm tm bs lv oid N S p) (hf : ∀ k, 1 ≤ f k) (hb : BIN nb b) (hB0 : BOK nb bo 0 nf) (hs : s < pd f 0 P) (hP : P ≤ 14) (hS : ∀ j, j < N → S' j = S j) (hq : ∀ x, S' (oi (pj mk f P P s)) x = true ↔ Q (pj mk f P P s) x) : (∀ r, fin nb bo b 0 (nf + 1) r → FLV P f S' (upv nm nf mk) (upv tm nf tk) (upv oid nf oi) r s t) ↔ (∀ r, fin nb bo b 0 nf r → FLV P f S nm tm oid r s t) ∧ (b + 1 = nb → Q (pj mk f P P s) (ixz tk f (dgzU f P t) P)) := by
  have hold : ∀ r, fin nb bo b 0 nf r → (FLV P f S' (upv nm nf mk) (upv tm nf tk) (upv oid nf oi) r s t ↔ FLV P f S nm tm oid r s t) := fun r hr => by
    have hrn := fin_lt hb hB0 hr
    refine flv_put hrn ?_ hS
    have y := pj_lt (mk := nm r) (f := f) (P := P) (n := P) (fun k _ => hf k) (Nat.le_refl P) s (by rw [Nat.sub_self]; exact hs)
    rw [wn_pm] at y
    rw [ixz_pj hs]
    exact ((hF.2 r hrn).2.2.2 _ y).2.1
  constructor
  · intro h
    refine ⟨fun r hr => (hold r hr).mp (h r ((fin_more hb hB0).mpr (Or.inl hr))), fun e => ?_⟩
    have y := h nf ((fin_more hb hB0).mpr (Or.inr ⟨rfl, e⟩))
    exact (hq _).mp ((flv_new hP hs).mp y)
  · rintro ⟨h1, h2⟩ r hr
    rcases (fin_more hb hB0).mp hr with y | ⟨y, e⟩
    · exact (hold r y).mpr (h1 r y)
    · rw [y]
      exact (flv_new hP hs).mpr ((hq _).mpr (h2 e))
end More
