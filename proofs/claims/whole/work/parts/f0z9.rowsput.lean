/-! THE RELATION: a wide row more, a table again: what is left of a step by a branch -/
section RowsPut
variable {U V : Ud} {m P N nf nw nb b q s t a n i qk : Nat} {Y : Ts} {f od wa wn wi bs lv : Nat → Nat} {wk : Nat → Bool} {bb : Bool} {es : Nat → Int32} {nm tm : Nat → Int32} {mk x3 x4 : Int32} {bo oid : Nat → Nat → Nat} {oi : Nat → Nat} {S S' : Nat → Nat → Bool} {p : Nat → Bool} {Q : Nat → Nat → Prop}
theorem wrows_put (hn : (U.1 25).1 = nw) (hnw : nw < 16777216) (h25 : V.1 25 = tset 5 (tput 5 (U.1 25) (nI a) (nI (a + n)) (nI i) x3) (nI nw) 4 x4) (h15 : V.1 15 = U.1 15) (h98 : V.2.2.1 99 8 = U.2.2.1 99 8) (hb : BIN nb b) (hB1 : BOK nb bo 1 nw) : (∀ r, fin nb bo b 1 (nw + 1) r → WLV Y V P f od (upv wa nw a) (upv wn nw n) (upv wi nw i) (upv wk nw bb) r s t) ↔ (∀ r, fin nb bo b 1 nw r → WLV Y U P f od wa wn wi wk r s t) ∧ (b + 1 = nb → WLV Y V P f od (upv wa nw a) (upv wn nw n) (upv wi nw i) (upv wk nw bb) nw s t) := by
  constructor
  · intro h
    exact ⟨fun r hr => (wlv_put hn hnw h25 h15 h98 (fin_lt hb hB1 hr)).mp (h r ((fin_more hb hB1).mpr (Or.inl hr))), fun e => h nw ((fin_more hb hB1).mpr (Or.inr ⟨rfl, e⟩))⟩
  · rintro ⟨h1, h2⟩ r hr
    rcases (fin_more hb hB1).mp hr with y | ⟨y, e⟩
    · exact (wlv_put hn hnw h25 h15 h98 (fin_lt hb hB1 y)).mpr (h1 r y)
    · rw [y]
      exact h2 e
/-- the new row itself, a choice -/
theorem wlv_newC (hn : (U.1 25).1 = nw) (hnw : nw < 16777216) {pl : Nat} (hpl : pl < P) (hP : P ≤ 14) (h25 : V.1 25 = tset 5 (tput 5 (U.1 25) (nI a) (nI (a + n)) (nI i) (nI pl)) (nI nw) 4 0) : WLV Y V P f od (upv wa nw a) (upv wn nw n) (upv wi nw i) (upv wk nw bb) nw s t ↔ CHSw Y V f P od bb a n i s ((V.2.2.1 99 8).2 (sm f 0 pl + dgzU f P t pl)) := by
  obtain ⟨-, -, -, -, -, n3, n4⟩ := wide_rows hn hnw h25
  unfold WLV
  rw [upv_eq, upv_eq, upv_eq, upv_eq, n3, n4]
  constructor
  · intro h
    exact h.1 rfl pl hpl rfl
  · intro h
    refine ⟨fun _ q hq y => ?_, fun y => absurd y (by decide)⟩
    have e : pl = q := nI_inj (by omega) (by omega) y
    rw [← e]
    exact h
/-- the new row itself, a truth -/
theorem wlv_newT (hn : (U.1 25).1 = nw) (hnw : nw < 16777216) (h25 : V.1 25 = tset 5 (tput 5 (U.1 25) (nI a) (nI (a + n)) (nI i) x3) (nI nw) 4 1) (hn0 : ¬ n = 0) : WLV Y V P f od (upv wa nw a) (upv wn nw n) (upv wi nw i) (upv wk nw bb) nw s t ↔ trs Y V f P od i a n s t = 1 := by
  obtain ⟨-, -, -, -, -, n3, n4⟩ := wide_rows hn hnw h25
  unfold WLV
  rw [upv_eq, upv_eq, upv_eq, upv_eq, n4]
  exact ⟨fun h => h.2 rfl hn0, fun h => ⟨fun y => absurd y (by decide), fun _ _ => h⟩⟩
theorem rows_again (hF : FAC U P f nf nm tm bs lv oid N S p) (hf : ∀ k, 1 ≤ f k) (hb : BIN nb b) (hB0 : BOK nb bo 0 nf) (hs : s < pd f 0 P) (hS : ∀ j, j < N → S' j = S j) (hmk : nm qk = mk) (hq : ∀ x, S' (oi (pj mk f P P s)) x = true ↔ S (oid qk (pj mk f P P s)) x = true ∧ Q (pj mk f P P s) x) : (∀ r, fin nb bo b 0 nf r → FLV P f S' nm tm (upv oid qk oi) r s t) ↔ (∀ r, fin nb bo b 0 nf r → FLV P f S nm tm oid r s t) ∧ (fin nb bo b 0 nf qk → Q (pj mk f P P s) (ixz (tm qk) f (dgzU f P t) P)) := by
  have hoth : ∀ r, fin nb bo b 0 nf r → ¬ r = qk → (FLV P f S' nm tm (upv oid qk oi) r s t ↔ FLV P f S nm tm oid r s t) := fun r hr hne => by
    have hrn := fin_lt hb hB0 hr
    have y := pj_lt (mk := nm r) (f := f) (P := P) (n := P) (fun k _ => hf k) (Nat.le_refl P) s (by rw [Nat.sub_self]; exact hs)
    rw [wn_pm] at y
    unfold FLV
    rw [upv_no hne, ixz_pj hs, hS _ ((hF.2 r hrn).2.2.2 _ y).2.1]
  have hown : FLV P f S' nm tm (upv oid qk oi) qk s t ↔ FLV P f S nm tm oid qk s t ∧ Q (pj mk f P P s) (ixz (tm qk) f (dgzU f P t) P) := by
    unfold FLV
    rw [upv_eq, ixz_pj hs, hmk]
    exact hq _
  constructor
  · intro h
    refine ⟨fun r hr => ?_, fun hk => (hown.mp (h qk hk)).2⟩
    by_cases e : r = qk
    · rw [e] at hr ⊢
      exact (hown.mp (h qk hr)).1
    · exact (hoth r hr e).mp (h r hr)
  · rintro ⟨h1, h2⟩ r hr
    by_cases e : r = qk
    · rw [e] at hr ⊢
      exact hown.mpr ⟨h1 qk hr, h2 hr⟩
    · exact (hoth r hr e).mpr (h1 r hr)
end RowsPut
