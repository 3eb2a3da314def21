/-! THE RELATION: a table more, a table again -/
section FacPut
variable {U V V0 : Ud} {P N us nf ou spn l : Nat} {f bs lv z : Nat → Nat} {nm tm : Nat → Int32} {mk tk lw v : Int32} {oid : Nat → Nat → Nat} {S : Nat → Nat → Bool} {p : Nat → Bool} {Q : Nat → Nat → Prop} {t : Tb} {a b c e : Int32}
theorem tk6_eq (h : t.1 < 2147483647) : tset 6 (tput 6 t a b c e) (nI t.1) 4 v = (t.1 + 1, fun i k => if i = t.1 ∧ k = 4 then v else if i = t.1 then (if k < 6 then rw_col a b c e k else 0) else t.2 i k) := by
  unfold tset
  rw [if_neg (nI_pos (by omega)), nI_clamp (by omega), if_pos ⟨by show t.1 < t.1 + 1; omega, by decide⟩]
  rfl
/-- a new table: the rows of factors behind it -/
theorem FAC.put (hF : FAC U P f nf nm tm bs lv oid N S p) (h0 : ∀ j, j < ou → (V0.2.2.1 129 4).2 j = (U.2.2.1 129 4).2 j) (hT : TBX V0 V N us S z p spn ou (pm mk f P) Q) (h4 : ou + pm mk f P ≤ (V.2.2.1 129 4).1) (h4b : (V.2.2.1 129 4).1 ≤ 67108864) (hbo : ∀ q, q < nf → bs q + pm (nm q) f P ≤ ou) (hnf : nf < 67108864) (h24 : V.1 24 = tset 6 (tput 6 (U.1 24) mk tk (nI ou) 0) (nI nf) 4 (lvz tk l)) (hTM : TMK tk l P) (hQ : ∀ c x, c < pm mk f P → Q c x → x < pm tk f P) : ∃ (N' us' : Nat) (S' : Nat → Nat → Bool) (z' : Nat → Nat) (p' : Nat → Bool) (oi : Nat → Nat), SOK V N' us' S' z' p' ∧ FAC V P f (nf + 1) (upv nm nf mk) (upv tm nf tk) (upv bs nf ou) (upv lv nf l) (upv oid nf oi) N' S' p' ∧ (N ≤ N' ∧ N' ≤ N + pm mk f P) ∧ (us ≤ us' ∧ us' + 256 * (us / 8192) ≤ us + 256 * (us' / 8192) + pm mk f P * (spn + 1) ∧ N' + us ≤ N + us') ∧ (∀ j, j < N → S' j = S j ∧ p' j = p j) ∧ ∀ c, c < pm mk f P → ∀ x, S' (oi c) x = true ↔ Q c x := by
  obtain ⟨hTp, hTo, N1, us1, S1, z1, p1, oi, hS1, hNb, hNS, hUb, hcl⟩ := hT
  obtain ⟨⟨hn, hnb, hl4⟩, hrows⟩ := hF
  have e24 : V.1 24 = (nf + 1, fun i k => if i = nf ∧ k = 4 then lvz tk l else if i = nf then (if k < 6 then rw_col mk tk (nI ou) 0 k else 0) else (U.1 24).2 i k) := by
    rw [h24, ← hn]
    exact tk6_eq (by omega)
  have eold : ∀ q k, q < nf → (V.1 24).2 q k = (U.1 24).2 q k := fun q k hq => by
    rw [e24]
    show (if q = nf ∧ k = 4 then lvz tk l else if q = nf then (if k < 6 then rw_col mk tk (nI ou) 0 k else 0) else (U.1 24).2 q k) = _
    rw [if_neg (fun y => absurd y.1 (by omega)), if_neg (by omega)]
  have enew : ∀ k, k < 4 → (V.1 24).2 nf k = rw_col mk tk (nI ou) 0 k := fun k hk => by
    rw [e24]
    show (if nf = nf ∧ k = 4 then lvz tk l else if nf = nf then (if k < 6 then rw_col mk tk (nI ou) 0 k else 0) else (U.1 24).2 nf k) = _
    rw [if_neg (fun y => absurd y.2 (by omega)), if_pos rfl, if_pos (by omega)]
  have enew4 : (V.1 24).2 nf 4 = lvz tk l := by
    rw [e24]
    show (if nf = nf ∧ 4 = 4 then lvz tk l else _) = _
    rw [if_pos ⟨rfl, rfl⟩]
  refine ⟨N1, us1, S1, z1, p1, oi, hS1, ⟨⟨by rw [e24], by omega, h4b⟩, fun q hq => ?_⟩, hNb, hUb, fun j hj => ⟨(hNS j hj).1, (hNS j hj).2.2⟩, fun c hc => (hcl c hc).2.2.2⟩
  by_cases eq1 : q = nf
  · rw [eq1, upv_eq, upv_eq, upv_eq, upv_eq, upv_eq]
    refine ⟨⟨enew 0 (by omega), enew 1 (by omega), enew 2 (by omega), enew4⟩, hTM, h4, fun c hc => ?_⟩
    obtain ⟨y1, y2, y3, y4⟩ := hcl c hc
    exact ⟨y1, y2, y3, fun x hx => hQ c x hc ((y4 x).mp hx)⟩
  · have hqn : q < nf := by omega
    obtain ⟨⟨r0, r1, r2, r4⟩, rT, rb, rc⟩ := hrows q hqn
    have hbq := hbo q hqn
    rw [upv_ne hqn, upv_ne hqn, upv_ne hqn, upv_ne hqn, upv_ne hqn]
    refine ⟨⟨(eold q 0 hqn).trans r0, (eold q 1 hqn).trans r1, (eold q 2 hqn).trans r2, (eold q 4 hqn).trans r4⟩, rT, by omega, fun c hc => ?_⟩
    obtain ⟨y1, y2, y3, y4⟩ := rc c hc
    obtain ⟨w1, w2, w3⟩ := hNS (oid q c) y2
    exact ⟨(hTo _ (by omega)).trans ((h0 _ (by omega)).trans y1), by omega, w3.trans y3, fun x hx => y4 x (by rw [← w1]; exact hx)⟩
end FacPut
