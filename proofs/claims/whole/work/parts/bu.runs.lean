/-! THE MACHINE: the code of an E or CHOICE is run -/
def Fru : Uf := ⟨[], [(100, 14), (100, 16)], [(100, 8), (100, 9), (100, 10), (100, 11), (100, 12), (100, 13), (100, 15)], [], [], false⟩
/-- behind n operators: what is open, what has been chosen -/
def ri (U V : Ud) (Y : Ts) (O cp A W l a n : Nat) (lv : Nat → Nat → Int32) (it : Nat → Nat) : Prop :=
  mst V A W l (tpz Y a n) it ∧ (∀ k, k < tpz Y a n → it k < O - cp ∨ it k = O + k) ∧
  (∀ k j, k < tpz Y a n → j < l → cvl V W (it k) j = svz Y (lv j) a n k) ∧
  (V.2.1 100 16 = nI (snz Y a n) ∧ (∀ c, c ≤ snz Y a n → (V.2.2.1 100 15).2 c = nI (fszU Y a n c)) ∧ fszU Y a n (snz Y a n) = sfz Y a n) ∧
  (∀ x j, x < sfz Y a n → j < l → cvl V W (O - cp + x) j = kvz Y (lv j) a n x) ∧
  (∀ s k, s < O - cp → k < W → ckp V U W s k)
/-- an operator finds what it needs -/
def okz (Y : Ts) (a n l : Nat) (lv : Nat → Nat → Int32) : Prop :=
  ((Y 0).2 (a + n) 0 = nI (oc Y (a + n)) ∧ oc Y (a + n) ≤ 34 ∧ plen (oc Y (a + n)) (oa Y (a + n)) ≤ tpz Y a n) ∧
  (3 < oc Y (a + n) → ((4 ≤ oc Y (a + n) ∧ oc Y (a + n) ≤ 9) ∨ (16 ≤ oc Y (a + n) ∧ oc Y (a + n) ≤ 27) ∨ 30 ≤ oc Y (a + n)) ∧ 1 ≤ plen (oc Y (a + n)) (oa Y (a + n))) ∧
  (oc Y (a + n) = 30 ∨ oc Y (a + n) = 31 ∨ oc Y (a + n) = 33 ∨ oc Y (a + n) = 34 → (Y 0).2 (a + n) 1 = nI (oa Y (a + n)) ∧ oa Y (a + n) ≤ 16777216) ∧
  (oc Y (a + n) = 31 ∨ oc Y (a + n) = 34 → ∀ i, tpz Y a n - plen (oc Y (a + n)) (oa Y (a + n)) ≤ i → i < tpz Y a n → (i - (tpz Y a n - plen (oc Y (a + n)) (oa Y (a + n)))) % 2 = 0 → ∀ j, j < l → svz Y (lv j) a n i = 0 ∨ svz Y (lv j) a n i = 1) ∧
  ((18 ≤ oc Y (a + n) ∧ oc Y (a + n) ≤ 21) ∨ oc Y (a + n) = 25 ∨ oc Y (a + n) = 26 → ∀ j, j < l → okn (svz Y (lv j) a n (tpz Y a n - plen (oc Y (a + n)) (oa Y (a + n)))) ∧ okn (svz Y (lv j) a n (tpz Y a n - 1)))
section Runs
variable {H : mu_H} {m d A W l s t k o f O p n q i a sc cp slt : Nat} {C : Nat → Nat} {U V V1 V' : Ud} {it : Nat → Nat} {Y : Ts} {lv : Nat → Nat → Int32}
theorem mst_next (h : mst V A W l t it) (h17 : V1.2.1 100 17 = V.2.1 100 17) (h18 : V1.2.1 100 18 = V.2.1 100 18) (n8 : (V1.2.2.1 100 8).1 = (V.2.2.1 100 8).1) (n12 : (V1.2.2.1 100 12).1 = (V.2.2.1 100 12).1) (n13 : (V1.2.2.1 100 13).1 = (V.2.2.1 100 13).1) (h14 : V1.2.1 100 14 = nI (f + 1)) (hf : f ≤ t) (hf1 : f + 1 ≤ (V.2.2.1 100 13).1) (h13 : ∀ k, (V1.2.2.1 100 13).2 k = if k = f then nI slt else (V.2.2.1 100 13).2 k) (hs : slt < A) : mst V1 A W l (f + 1) (fun k => if k = f then slt else it k) := by
  obtain ⟨⟨x1, x2, x3, x4, x5, x6, x7, x8, x9⟩, m2, m3, m4, m5⟩ := h
  refine ⟨⟨by rw [h17]; exact x1, by rw [h18]; exact x2, x3, x4, x5, by rw [n8]; exact x6, by rw [n8]; exact x7, by rw [n12]; exact x8, by rw [n12]; exact x9⟩, h14, by rw [n13]; exact hf1, by rw [n13]; exact m4, fun k hk => ?_⟩
  rw [h13 k]
  show (if k = f then nI slt else (V.2.2.1 100 13).2 k) = nI (if k = f then slt else it k) ∧ (if k = f then slt else it k) < A
  by_cases e : k = f
  · rw [if_pos e, if_pos e]; exact ⟨rfl, hs⟩
  · rw [if_neg e, if_neg e]; exact m5 k (by omega)
theorem plen_0 {o a : Nat} (h : o ≤ 3) : plen o a = 0 := if_pos h
theorem ri_push (h : ri U V Y O cp A W l a n lv it) (ho : oc Y (a + n) ≤ 3) (hp : psq V V1 O (O - cp) (tpz Y a n) W l (fun j => lv j (a + n)) slt) (hz : uq Fpu V V1) (hOt : O + tpz Y a n < A) (hcO : cp ≤ O) (hit : tpz Y a n + 1 ≤ (V.2.2.1 100 13).1) (hscp : sfz Y a n ≤ cp) : ri U V1 Y O cp A W l a (n + 1) lv (fun k => if k = tpz Y a n then slt else it k) := by
  obtain ⟨h1, h2, h3, ⟨h4, h5, h6⟩, h7, h8⟩ := h
  obtain ⟨p1, p2, p3, p4, p5⟩ := hp
  have e1 : tpz Y a (n + 1) = tpz Y a n + 1 := by
    show tpz Y a n - plen (oc Y (a + n)) (oa Y (a + n)) + 1 = _
    rw [plen_0 ho]; rfl
  have e2 : snz Y a (n + 1) = snz Y a n := if_neg (by omega)
  have e3 : sfz Y a (n + 1) = sfz Y a n := if_neg (by omega)
  have e4 : ∀ c, fszU Y a (n + 1) c = fszU Y a n c := fun c => if_neg (by omega)
  have e5 : ∀ j x, kvz Y (lv j) a (n + 1) x = kvz Y (lv j) a n x := fun j x => if_neg (by omega)
  have e6 : ∀ j k, svz Y (lv j) a (n + 1) k = if k = tpz Y a n then lv j (a + n) else svz Y (lv j) a n k := fun j k => by
    show (if k = tpz Y a n - plen (oc Y (a + n)) (oa Y (a + n)) then (if oc Y (a + n) ≤ 3 then lv j (a + n) else _) else svz Y (lv j) a n k) = _
    rw [plen_0 ho, if_pos ho]; rfl
  have hsA : slt < A := by rcases p3 with z | z <;> omega
  have hlW := h1.1.2.2.2.1
  unfold ri
  rw [e1, e2, e3]
  refine ⟨mst_next h1 (hz.i 100 17 rfl) (hz.i 100 18 rfl) (hz.n 100 8 rfl) (hz.n 100 12 rfl) (hz.n 100 13 rfl) p1 (Nat.le_refl _) hit p2 hsA, fun k hk => ?_, fun k j hk hj => ?_, ⟨(hz.i 100 16 rfl).trans h4, fun c hc => ?_, (e4 _).trans h6⟩, fun x j hx hj => ?_, fun s k hs hk => ?_⟩
  · show (if k = tpz Y a n then slt else it k) < O - cp ∨ (if k = tpz Y a n then slt else it k) = O + k
    by_cases e : k = tpz Y a n
    · rw [if_pos e, e]; exact p3
    · rw [if_neg e]; exact h2 k (by omega)
  · rw [e6]
    show cvl V1 W (if k = tpz Y a n then slt else it k) j = _
    by_cases e : k = tpz Y a n
    · rw [if_pos e, if_pos e]; exact p4 j hj
    · rw [if_neg e, if_neg e, (p5 (it k) j (by rcases h2 k (by omega) with z | z <;> omega) (by omega)).1]
      exact h3 k j (by omega) hj
  · rw [e4, hz.a 100 15 rfl]; exact h5 c hc
  · rw [e5, (p5 _ j (by omega) (by omega)).1]; exact h7 x j hx hj
  · exact (p5 s k (by omega) hk).trans (h8 s k hs hk)
theorem ri_apply (h : ri U V Y O cp A W l a n lv it) (ho : 3 < oc Y (a + n)) (ho2 : ¬ (oc Y (a + n) = 32 ∨ oc Y (a + n) = 33)) (hpl : plen (oc Y (a + n)) (oa Y (a + n)) ≤ tpz Y a n) (hp1 : 1 ≤ plen (oc Y (a + n)) (oa Y (a + n))) (hp : apq V V1 O (tpz Y a n - plen (oc Y (a + n)) (oa Y (a + n))) W l (fun j => ro (fun i => cvl V W (it i) j) (nI (oc Y (a + n))) (tpz Y a n - plen (oc Y (a + n)) (oa Y (a + n))) (tpz Y a n))) (hz : uq Fru V V1) (h15 : V1.2.2.1 100 15 = V.2.2.1 100 15) (h16 : V1.2.1 100 16 = V.2.1 100 16) (hOt : O + tpz Y a n ≤ A) (hcO : cp ≤ O) (hscp : sfz Y a n ≤ cp) : ri U V1 Y O cp A W l a (n + 1) lv (fun k => if k = tpz Y a n - plen (oc Y (a + n)) (oa Y (a + n)) then O + (tpz Y a n - plen (oc Y (a + n)) (oa Y (a + n))) else it k) := by
  obtain ⟨h1, h2, h3, ⟨h4, h5, h6⟩, h7, h8⟩ := h
  obtain ⟨p1, p2, p3, p4⟩ := hp
  have e1 : tpz Y a (n + 1) = tpz Y a n - plen (oc Y (a + n)) (oa Y (a + n)) + 1 := rfl
  have e2 : snz Y a (n + 1) = snz Y a n := if_neg ho2
  have e3 : sfz Y a (n + 1) = sfz Y a n := if_neg ho2
  have e4 : ∀ c, fszU Y a (n + 1) c = fszU Y a n c := fun c => if_neg (fun z => ho2 z.1)
  have e5 : ∀ j x, kvz Y (lv j) a (n + 1) x = kvz Y (lv j) a n x := fun j x => if_neg (fun z => ho2 z.1)
  have e6 : ∀ j k, svz Y (lv j) a (n + 1) k = if k = tpz Y a n - plen (oc Y (a + n)) (oa Y (a + n)) then ro (svz Y (lv j) a n) (nI (oc Y (a + n))) (tpz Y a n - plen (oc Y (a + n)) (oa Y (a + n))) (tpz Y a n) else svz Y (lv j) a n k := fun j k => by
    show (if k = tpz Y a n - plen (oc Y (a + n)) (oa Y (a + n)) then (if oc Y (a + n) ≤ 3 then lv j (a + n) else if oc Y (a + n) = 32 ∨ oc Y (a + n) = 33 then nI (snz Y a n) else ro (svz Y (lv j) a n) (nI (oc Y (a + n))) (tpz Y a n - plen (oc Y (a + n)) (oa Y (a + n))) (tpz Y a n)) else svz Y (lv j) a n k) = _
    rw [if_neg (show ¬ oc Y (a + n) ≤ 3 by omega), if_neg ho2]
  have hlW := h1.1.2.2.2.1
  have h13 := h1.2.2.1
  generalize hf : tpz Y a n - plen (oc Y (a + n)) (oa Y (a + n)) = f at *
  unfold ri
  rw [e1, e2, e3]
  refine ⟨mst_next h1 (hz.i 100 17 rfl) (hz.i 100 18 rfl) (hz.n 100 8 rfl) (hz.n 100 12 rfl) (hz.n 100 13 rfl) p1 (by omega) (by omega) p2 (by omega), fun k hk => ?_, fun k j hk hj => ?_, ⟨h16.trans h4, fun c hc => ?_, (e4 _).trans h6⟩, fun x j hx hj => ?_, fun s k hs hk => ?_⟩
  · show (if k = f then O + f else it k) < O - cp ∨ (if k = f then O + f else it k) = O + k
    by_cases e : k = f
    · rw [if_pos e, e]; exact Or.inr rfl
    · rw [if_neg e]; exact h2 k (by omega)
  · rw [e6]
    show cvl V1 W (if k = f then O + f else it k) j = _
    by_cases e : k = f
    · rw [if_pos e, if_pos e, p3 j hj]
      exact ro_congr (by omega) (fun i h1 h2 => h3 i j (by omega) hj)
    · rw [if_neg e, if_neg e, (p4 (it k) j (by rcases h2 k (by omega) with z | z <;> omega) (by omega)).1]
      exact h3 k j (by omega) hj
  · rw [e4, h15]; exact h5 c hc
  · rw [e5, (p4 _ j (by omega) (by omega)).1]; exact h7 x j hx hj
  · exact (p4 s k (by omega) hk).trans (h8 s k hs hk)
theorem ri_choice (h : ri U V Y O cp A W l a n lv it) (ho2 : oc Y (a + n) = 32 ∨ oc Y (a + n) = 33) (hpl : plen (oc Y (a + n)) (oa Y (a + n)) ≤ tpz Y a n) (hp1 : 1 ≤ plen (oc Y (a + n)) (oa Y (a + n))) (hk : kpq V V' O cp W l (snz Y a n) (sfz Y a n) (tpz Y a n - plen (oc Y (a + n)) (oa Y (a + n))) (tpz Y a n) it) (hp : apq V' V1 O (tpz Y a n - plen (oc Y (a + n)) (oa Y (a + n))) W l (fun _ => nI (snz Y a n))) (hz : uq Fru V V1) (h15 : V1.2.2.1 100 15 = V'.2.2.1 100 15) (h16 : V1.2.1 100 16 = V'.2.1 100 16) (hi13 : V'.2.2.1 100 13 = V.2.2.1 100 13) (hOt : O + tpz Y a n ≤ A) (hcO : cp ≤ O) (hscp : sfz Y a n + plen (oc Y (a + n)) (oa Y (a + n)) ≤ cp) : ri U V1 Y O cp A W l a (n + 1) lv (fun k => if k = tpz Y a n - plen (oc Y (a + n)) (oa Y (a + n)) then O + (tpz Y a n - plen (oc Y (a + n)) (oa Y (a + n))) else it k) := by
  obtain ⟨h1, h2, h3, ⟨h4, h5, h6⟩, h7, h8⟩ := h
  obtain ⟨p1, p2, p3, p4⟩ := hp
  obtain ⟨k1, k2, k3, k4⟩ := hk
  have ho : 3 < oc Y (a + n) := by omega
  have e1 : tpz Y a (n + 1) = tpz Y a n - plen (oc Y (a + n)) (oa Y (a + n)) + 1 := rfl
  have e2 : snz Y a (n + 1) = snz Y a n + 1 := if_pos ho2
  have e3 : sfz Y a (n + 1) = sfz Y a n + plen (oc Y (a + n)) (oa Y (a + n)) := if_pos ho2
  have e4 : ∀ c, fszU Y a (n + 1) c = if c = snz Y a n + 1 then sfz Y a n + plen (oc Y (a + n)) (oa Y (a + n)) else fszU Y a n c := fun c => by
    show (if (oc Y (a + n) = 32 ∨ oc Y (a + n) = 33) ∧ c = snz Y a n + 1 then _ else _) = _
    by_cases e : c = snz Y a n + 1
    · rw [if_pos ⟨ho2, e⟩, if_pos e]
    · rw [if_neg (fun z => e z.2), if_neg e]
  have e5 : ∀ j x, kvz Y (lv j) a (n + 1) x = if sfz Y a n ≤ x then svz Y (lv j) a n (tpz Y a n - plen (oc Y (a + n)) (oa Y (a + n)) + (x - sfz Y a n)) else kvz Y (lv j) a n x := fun j x => by
    show (if (oc Y (a + n) = 32 ∨ oc Y (a + n) = 33) ∧ sfz Y a n ≤ x then _ else _) = _
    by_cases e : sfz Y a n ≤ x
    · rw [if_pos ⟨ho2, e⟩, if_pos e]
    · rw [if_neg (fun z => e z.2), if_neg e]
  have e6 : ∀ j k, svz Y (lv j) a (n + 1) k = if k = tpz Y a n - plen (oc Y (a + n)) (oa Y (a + n)) then nI (snz Y a n) else svz Y (lv j) a n k := fun j k => by
    show (if k = tpz Y a n - plen (oc Y (a + n)) (oa Y (a + n)) then (if oc Y (a + n) ≤ 3 then lv j (a + n) else if oc Y (a + n) = 32 ∨ oc Y (a + n) = 33 then nI (snz Y a n) else ro (svz Y (lv j) a n) (nI (oc Y (a + n))) (tpz Y a n - plen (oc Y (a + n)) (oa Y (a + n))) (tpz Y a n)) else svz Y (lv j) a n k) = _
    rw [if_neg (show ¬ oc Y (a + n) ≤ 3 by omega), if_pos ho2]
  have hlW := h1.1.2.2.2.1
  have h13 := h1.2.2.1
  generalize hP : plen (oc Y (a + n)) (oa Y (a + n)) = P at *
  generalize hT : tpz Y a n = T at *
  generalize hf : T - P = f at *
  have p2' : ∀ k, (V1.2.2.1 100 13).2 k = if k = f then nI (O + f) else (V.2.2.1 100 13).2 k := fun k => by rw [p2 k, hi13]
  unfold ri
  rw [e1, e2, e3]
  refine ⟨mst_next h1 (hz.i 100 17 rfl) (hz.i 100 18 rfl) (hz.n 100 8 rfl) (hz.n 100 12 rfl) (hz.n 100 13 rfl) p1 (by omega) (by omega) p2' (by omega), fun k hk => ?_, fun k j hk hj => ?_, ⟨h16.trans k1, fun c hc => ?_, by rw [e4, if_pos rfl]⟩, fun x j hx hj => ?_, fun s k hs hk => ?_⟩
  · show (if k = f then O + f else it k) < O - cp ∨ (if k = f then O + f else it k) = O + k
    by_cases e : k = f
    · rw [if_pos e, e]; exact Or.inr rfl
    · rw [if_neg e]; exact h2 k (by omega)
  · rw [e6]
    show cvl V1 W (if k = f then O + f else it k) j = _
    by_cases e : k = f
    · rw [if_pos e, if_pos e]; exact p3 j hj
    · have hk2 := h2 k (by omega)
      rw [if_neg e, if_neg e, (p4 (it k) j (by rcases hk2 with z | z <;> omega) (by omega)).1, (k4 (it k) j (by rcases hk2 with z | z <;> omega) (by omega)).1]
      exact h3 k j (by omega) hj
  · rw [e4, h15, k2]
    by_cases e : c = snz Y a n + 1
    · rw [if_pos e, if_pos e]; exact congrArg nI (by omega)
    · rw [if_neg e, if_neg e]; exact h5 c (by omega)
  · rw [e5, (p4 _ j (by omega) (by omega)).1]
    by_cases e : sfz Y a n ≤ x
    · rw [if_pos e]
      have z := k3 (x - sfz Y a n) j (by omega) hj
      rw [show sfz Y a n + (x - sfz Y a n) = x by omega] at z
      rw [z]
      exact h3 _ j (by omega) hj
    · rw [if_neg e, (k4 _ j (by omega) (by omega)).1]; exact h7 x j (by omega) hj
  · exact (p4 s k (by omega) hk).trans ((k4 s k (by omega) hk).trans (h8 s k hs hk))
end Runs
