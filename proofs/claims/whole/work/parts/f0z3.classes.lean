/-! THE RELATION: what it means, and STATES of one class -/
/-- a branch all of whose rows leave a step -/
def MNB (Y : Ts) (U : Ud) (P : Nat) (f od : Nat → Nat) (S : Nat → Nat → Bool) (nf : Nat) (nm tm : Nat → Int32) (oid : Nat → Nat → Nat) (nw : Nat) (wa wn wi : Nat → Nat) (wk : Nat → Bool) (nb : Nat) (bo : Nat → Nat → Nat) (s t : Nat) : Prop := ∃ b, BIN nb b ∧ (∀ r, fin nb bo b 0 nf r → FLV P f S nm tm oid r s t) ∧ ∀ r, fin nb bo b 1 nw r → WLV Y U P f od wa wn wi wk r s t
section Classes
variable {U V : Ud} {m P N nf nw nb b s s' t i a k r : Nat} {Y : Ts} {f od wa wn wi bs lv lc : Nat → Nat} {wk : Nat → Bool} {es : Nat → Int32} {nm tm : Nat → Int32} {bo oid : Nat → Nat → Nat} {S : Nat → Nat → Bool} {p : Nat → Bool}
theorem flv_same (hF : FAC U P f nf nm tm bs lv oid N S p) (hN : N ≤ 67108864) (hf : ∀ k, 1 ≤ f k) (hr : r < nf) (hs : s < pd f 0 P) (hs' : s' < pd f 0 P) (h : (U.2.2.1 129 4).2 (bs r + pj (nm r) f P P s) = (U.2.2.1 129 4).2 (bs r + pj (nm r) f P P s')) : FLV P f S nm tm oid r s t ↔ FLV P f S nm tm oid r s' t := by
  have hl : ∀ q, q < pd f 0 P → pj (nm r) f P P q < pm (nm r) f P := fun q hq => by
    have y := pj_lt (mk := nm r) (f := f) (P := P) (n := P) (fun k _ => hf k) (Nat.le_refl P) q (by rw [Nat.sub_self]; exact hq)
    rw [wn_pm] at y
    exact y
  obtain ⟨-, -, -, hcl⟩ := hF.2 r hr
  obtain ⟨e1, n1, -⟩ := hcl _ (hl s hs)
  obtain ⟨e2, n2, -⟩ := hcl _ (hl s' hs')
  have eo : oid r (pj (nm r) f P P s) = oid r (pj (nm r) f P P s') := nI_inj (by omega) (by omega) (e1.symm.trans (h.trans e2))
  unfold FLV
  rw [ixz_pj hs, ixz_pj hs', eo]
theorem wlv_same (hc : (U.1 25).2 r 4 = 0 → ∀ v, CHSw Y U f P od (wk r) (wa r) (wn r) (wi r) s v ↔ CHSw Y U f P od (wk r) (wa r) (wn r) (wi r) s' v) (ht : (U.1 25).2 r 4 = 1 → ¬ wn r = 0 → ∀ t, trs Y U f P od (wi r) (wa r) (wn r) s t = trs Y U f P od (wi r) (wa r) (wn r) s' t) : WLV Y U P f od wa wn wi wk r s t ↔ WLV Y U P f od wa wn wi wk r s' t := by
  unfold WLV
  constructor
  · rintro ⟨h1, h2⟩
    exact ⟨fun y4 pl hp y3 => (hc y4 _).mp (h1 y4 pl hp y3), fun y4 y0 => by rw [← ht y4 y0 t]; exact h2 y4 y0⟩
  · rintro ⟨h1, h2⟩
    exact ⟨fun y4 pl hp y3 => (hc y4 _).mpr (h1 y4 pl hp y3), fun y4 y0 => by rw [ht y4 y0 t]; exact h2 y4 y0⟩
theorem fin_lt {c tot q : Nat} (hb : BIN nb b) (h : BOK nb bo c tot) (hq : fin nb bo b c tot q) : q < tot := by
  obtain ⟨j, hj, ej⟩ := fin_fiz hb h hq
  have y := (fiz_lt hb h hj).1
  rw [ej] at y
  exact y
/-- STATES of one class GO to the same -/
theorem mnb_same (hF : FAC U P f nf nm tm bs lv oid N S p) (hN : N ≤ 67108864) (hf : ∀ k, 1 ≤ f k) (hB0 : BOK nb bo 0 nf) (hB1 : BOK nb bo 1 nw) (hs : s < pd f 0 P) (hs' : s' < pd f 0 P) (h1 : ∀ r, r < nf → (U.2.2.1 129 4).2 (bs r + pj (nm r) f P P s) = (U.2.2.1 129 4).2 (bs r + pj (nm r) f P P s')) (h2 : ∀ r, r < nw → (U.1 25).2 r 4 = 0 → ∀ v, CHSw Y U f P od (wk r) (wa r) (wn r) (wi r) s v ↔ CHSw Y U f P od (wk r) (wa r) (wn r) (wi r) s' v) (h3 : ∀ r, r < nw → (U.1 25).2 r 4 = 1 → ¬ wn r = 0 → ∀ t, trs Y U f P od (wi r) (wa r) (wn r) s t = trs Y U f P od (wi r) (wa r) (wn r) s' t) : MNB Y U P f od S nf nm tm oid nw wa wn wi wk nb bo s t ↔ MNB Y U P f od S nf nm tm oid nw wa wn wi wk nb bo s' t := by
  constructor
  · rintro ⟨c, hc, hA, hB⟩
    exact ⟨c, hc, fun r hr => (flv_same hF hN hf (fin_lt hc hB0 hr) hs hs' (h1 r (fin_lt hc hB0 hr))).mp (hA r hr), fun r hr => (wlv_same (h2 r (fin_lt hc hB1 hr)) (h3 r (fin_lt hc hB1 hr))).mp (hB r hr)⟩
  · rintro ⟨c, hc, hA, hB⟩
    exact ⟨c, hc, fun r hr => (flv_same hF hN hf (fin_lt hc hB0 hr) hs hs' (h1 r (fin_lt hc hB0 hr))).mpr (hA r hr), fun r hr => (wlv_same (h2 r (fin_lt hc hB1 hr)) (h3 r (fin_lt hc hB1 hr))).mpr (hB r hr)⟩
/-- what makeRow leaves is what the relation means -/
theorem goe_mnb (hK : KNV m U Y P f od es) (hF : FAC U P f nf nm tm bs lv oid N S p) (hlc : ∀ r, r < nf → lc r = lcz tm lv P r) (hWD : WIDw Y es P (U.1 15) (U.1 25) nw wa wn wi wk) (hB0 : BOK nb bo 0 nf) (hB1 : BOK nb bo 1 nw) (hs : s < pd f 0 P) : (∃ c, BIN nb c ∧ GOEb Y U P f od S nf nm tm lv lc oid nw wa wn wi wk nb bo s c t) ↔ bts (U.2.2.2.2.1 124) t = true ∧ MNB Y U P f od S nf nm tm oid nw wa wn wi wk nb bo s t := by
  constructor
  · rintro ⟨c, hc, hg⟩
    obtain ⟨y1, y2, y3⟩ := (goe_rows hK hF hlc hWD hc hB0 hB1 hs).mp hg
    exact ⟨y1, c, hc, y2, y3⟩
  · rintro ⟨y1, c, hc, y2, y3⟩
    exact ⟨c, hc, (goe_rows hK hF hlc hWD hc hB0 hB1 hs).mpr ⟨y1, y2, y3⟩⟩
end Classes
