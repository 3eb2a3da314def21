/-! THE UPPER LAYER AS DATA: references and longs -/
def upP (U : Ud) (p i k : Nat) (v : Int64) : Ud := (U.1, U.2.1, U.2.2.1, U.2.2.2.1, U.2.2.2.2.1, f2 U.2.2.2.2.2 p i ((U.2.2.2.2.2 p i).map (fun x => (x.1, fun q => if q = k then v else x.2 q))))
section UpperLongs
variable {H H1 H2 : mu_H} {m j d : Nat} {C : Nat → Nat} {U : Ud} {S : Nat → Bool}
/-- a reference of an object is written -/
theorem um.putR (h : um m H) {P k : Nat} {v : Option Nat} (hP : uo P = true) (h1 : gi_r P k = none) (h2 : gi_o P k = false) (h3 : (P, k) ∉ gi_al) (hv : ∀ q, v = some q → gi_cd H q) : um m (mu_sr H P k v) ∧ ur m C H (mu_sr H P k v) ∧ ud m (mu_sr H P k v) = upR (ud m H) P k v := by
  obtain ⟨⟨kd, hkd⟩, hw⟩ := uo_k hP
  obtain ⟨a, b, c⟩ := h.obj (C := C) hP (h.1.1.sr h1 h2 h3) (gk.sr (S := fun p => Nat.beq p P) h.1.1 hkd h2 h3 (Nat.beq_refl _) hv)
  refine ⟨a, b, ?_⟩
  have e2 : dA (mu_sr H P k v) = dA H := by
    funext p i
    unfold dA
    by_cases hx : uo p = true ∧ gi_o p i = true
    · rw [if_pos hx, if_pos hx]
      unfold gi_len
      have er : mu_r (mu_sr H P k v) p i = mu_r H p i := by
        rw [mu_r_sr, if_neg (fun z => by rw [z.1, z.2, h2] at hx; cases hx.2)]
      show (mu_n H (mu_p (mu_r (mu_sr H P k v) p i)), fun q => mu_i H (mu_p (mu_r (mu_sr H P k v) p i)) q) = _
      rw [er]
    · rw [if_neg hx, if_neg hx]
  have e3 : dR (mu_sr H P k v) = f2 (dR H) P k v := by
    funext p i
    unfold dR f2
    rw [mu_r_sr]
    by_cases hx : p = P ∧ i = k
    · rw [if_pos hx, if_pos hx, if_pos (by rw [hx.1]; exact hP)]
    · rw [if_neg hx, if_neg hx]
  have e5 : dP (mu_sr H P k v) = dP H := by
    funext p i
    unfold dP
    by_cases hx : (p, i) ∈ plp
    · rw [if_pos hx, if_pos hx, mu_r_sr, if_neg (fun z => ?_)]
      · rfl
      · rcases plp_in hx with e | e | e <;> rcases uo_in hP with f | f | f | f | f | f <;> (have e : p = _ := e; omega)
    · rw [if_neg hx, if_neg hx]
  show (ak m (mu_sr H P k v), dI H, dA (mu_sr H P k v), dR (mu_sr H P k v), dL H, dP (mu_sr H P k v)) = (ak m H, dI H, dA H, f2 (dR H) P k v, dL H, dP H)
  rw [c, e2, e3, e5]
theorem sl_same {p k q : Nat} {v : Int64} (h : q ≠ p) : mu_same H (mu_sl H p k v) q := mu_same.of rfl rfl (fun _ => rfl) (fun i => by rw [mu_l_sl, if_neg (fun z => h z.1)]) (fun _ => rfl)
/-- a long of an array that the class holds is written -/
theorem um.sl (h : um m H) {p k : Nat} {v : Int64} (hp : p < mu_z H) (h102 : mu_k H p = 102) (hcd : gi_cd H p) : um m (mu_sl H p k v) ∧ ur m C H (mu_sl H p k v) ∧ ak m (mu_sl H p k v) = ak m H := by
  have hg : gi (mu_sl H p k v) := h.1.1
  have hpo : pko (mu_sl H p k v) := h.1.2.1
  refine ⟨⟨⟨hg, hpo, h.1.2.2⟩, h.2⟩, ⟨⟨⟨Nat.le_refl _, Nat.le_refl _, Nat.le_refl _⟩, fun _ _ => ⟨rfl, rfl⟩, fun q kd hq _ => sl_same (fun z => ?_), fun q i hq _ => sl_same (fun z => ?_), fun q hq h101 => sl_same (fun z => ?_), fun q hq hn => sl_same (fun z => hn (by rw [z]; exact hcd)), fun q hq => Or.inl hq, Nat.le_refl _, Nat.le_refl _, Nat.le_refl _⟩, fun j _ => Nat.le_max_left _ _⟩, rfl⟩
  · have h1 := h.1.1.2.1 q kd hq
    have h3 := (gi_k_ok hq).2
    rw [z] at h1
    omega
  · have h1 := (h.1.1.o hq).2.2
    rw [z] at h1
    omega
  · rw [z] at h101
    omega
/-- a long of a final array -/
theorem um.putL (h : um m H) {p k : Nat} {v : Int64} (hp : fl p = true) : um m (mu_sl H p k v) ∧ ur m C H (mu_sl H p k v) ∧ ud m (mu_sl H p k v) = upL (ud m H) p k v := by
  obtain ⟨n, hn⟩ := fl_ok hp
  have ha := (h.1.1.a hn).1
  have hp199 := (gi_a_ok hn).1
  have hp167 : p < 169 := (show ∀ t ∈ gi_as, t.1 < 169 by decide +kernel) _ (gi_look hn)
  obtain ⟨a, b, c⟩ := h.sl (C := C) (p := p) (k := k) (v := v) ha.2.1 ha.2.2 (Or.inl hp167)
  refine ⟨a, b, ?_⟩
  have e4 : dL (mu_sl H p k v) = f2 (dL H) p k v := by
    funext q i
    unfold dL f2
    rw [mu_l_sl]
    by_cases hx : q = p ∧ i = k
    · rw [if_pos hx, if_pos hx, if_pos (by rw [hx.1]; exact hp)]
    · rw [if_neg hx, if_neg hx]
  have e5 : dP (mu_sl H p k v) = dP H := by
    funext q i
    unfold dP
    by_cases hx : (q, i) ∈ plp
    · rw [if_pos hx, if_pos hx]
      show (mu_r H q i).map (fun r => (mu_n H r, fun s => mu_l (mu_sl H p k v) r s)) = (mu_r H q i).map (fun r => (mu_n H r, fun s => mu_l H r s))
      rcases h.1.2.1.1 _ hx with z | ⟨z, z2⟩
      · rw [show mu_r H q i = none from z]; rfl
      · have z1 : mu_r H q i = some (mu_p (mu_r H q i)) := z.1
        rw [z1]
        refine congrArg some (Prod.ext rfl (funext fun s => ?_))
        show mu_l (mu_sl H p k v) (mu_p (mu_r H q i)) s = mu_l H (mu_p (mu_r H q i)) s
        have z2' : 201 ≤ mu_p (mu_r H q i) := z2
        rw [mu_l_sl, if_neg (fun y => by omega)]
    · rw [if_neg hx, if_neg hx]
  show (ak m (mu_sl H p k v), dI H, dA H, dR H, dL (mu_sl H p k v), dP (mu_sl H p k v)) = (ak m H, dI H, dA H, dR H, f2 (dL H) p k v, dP H)
  rw [c, e4, e5]
/-- a long of an array of the pools -/
theorem um.putP (h : um m H) {p i k q : Nat} {v : Int64} (hp : (p, i) ∈ plp) (hq : mu_r H p i = some q) : um m (mu_sl H q k v) ∧ ur m C H (mu_sl H q k v) ∧ ud m (mu_sl H q k v) = upP (ud m H) p i k v := by
  rcases h.1.2.1.1 _ hp with z | ⟨z, z2⟩
  · rw [show mu_r H p i = none from z] at hq; cases hq
  have eq : mu_p (mu_r H p i) = q := by rw [hq]; rfl
  have z' : mu_is H (some q) 102 := by rw [← hq]; exact z
  have z2' : 201 ≤ q := by rw [← eq]; exact z2
  have hf : gi_f p i = true := by
    rcases plp_in hp with e | e | e
    · rw [show p = 114 from e]; rfl
    · rw [show p = 161 from e]; rfl
    · rw [show p = 163 from e]; rfl
  obtain ⟨a, b, c⟩ := h.sl (C := C) (p := q) (k := k) (v := v) z'.2.1 z'.2.2 (Or.inr ⟨p, i, hf, hq⟩)
  refine ⟨a, b, ?_⟩
  have e4 : dL (mu_sl H q k v) = dL H := by
    funext r s
    unfold dL
    by_cases hx : fl r = true
    · obtain ⟨n, hn⟩ := fl_ok hx
      have hr167 : r < 169 := (show ∀ t ∈ gi_as, t.1 < 169 by decide +kernel) _ (gi_look hn)
      rw [if_pos hx, if_pos hx, mu_l_sl, if_neg (fun y => by omega)]
    · rw [if_neg hx, if_neg hx]
  have e5 : dP (mu_sl H q k v) = f2 (dP H) p i ((dP H p i).map (fun x => (x.1, fun s => if s = k then v else x.2 s))) := by
    funext r s
    unfold f2
    by_cases hrs : r = p ∧ s = i
    · rw [if_pos hrs, hrs.1, hrs.2]
      unfold dP
      rw [if_pos hp, if_pos hp]
      show (mu_r H p i).map (fun r => (mu_n H r, fun s => mu_l (mu_sl H q k v) r s)) = ((mu_r H p i).map (fun r => (mu_n H r, fun s => mu_l H r s))).map _
      rw [hq]
      refine congrArg some (Prod.ext rfl (funext fun s => ?_))
      show mu_l (mu_sl H q k v) q s = if s = k then v else mu_l H q s
      rw [mu_l_sl]
      by_cases hx : s = k
      · rw [if_pos ⟨rfl, hx⟩, if_pos hx]
      · rw [if_neg (fun y => hx y.2), if_neg hx]
    · rw [if_neg hrs]
      unfold dP
      by_cases hx : (r, s) ∈ plp
      · rw [if_pos hx, if_pos hx]
        show (mu_r H r s).map (fun y => (mu_n H y, fun x => mu_l (mu_sl H q k v) y x)) = (mu_r H r s).map (fun y => (mu_n H y, fun x => mu_l H y x))
        cases hrr : mu_r H r s with
        | none => rfl
        | some y =>
          refine congrArg some (Prod.ext rfl (funext fun x => ?_))
          show mu_l (mu_sl H q k v) y x = mu_l H y x
          rw [mu_l_sl, if_neg (fun e => ?_)]
          have : ((r, s) : Nat × Nat) = (p, i) := h.1.2.1.2 _ hx _ hp (by show mu_r H r s ≠ none; rw [hrr]; exact Option.some_ne_none _) (by show mu_r H r s = mu_r H p i; rw [hrr, hq, e.1])
          exact hrs ⟨congrArg Prod.fst this, congrArg Prod.snd this⟩
      · rw [if_neg hx, if_neg hx]
  show (ak m (mu_sl H q k v), dI H, dA H, dR H, dL (mu_sl H q k v), dP (mu_sl H q k v)) = (ak m H, dI H, dA H, dR H, dL H, f2 (dP H) p i ((dP H p i).map (fun x => (x.1, fun s => if s = k then v else x.2 s))))
  rw [c, e4, e5]
end UpperLongs
