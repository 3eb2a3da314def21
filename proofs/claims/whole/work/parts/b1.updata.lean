/-! THE UPPER LAYER AS DATA -/
def uo (P : Nat) : Bool := Nat.beq P 99 || (Nat.beq P 100 || (Nat.beq P 113 || (Nat.beq P 129 || (Nat.beq P 147 || Nat.beq P 158))))
/-- final arrays of longs -/
def fl (p : Nat) : Bool := match gi_a p with
  | some x => Nat.beq x.1 102
  | none => false
def f2 {α : Type} (f : Nat → Nat → α) (P j : Nat) (v : α) : Nat → Nat → α := fun p i => if p = P ∧ i = j then v else f p i
abbrev Ua := Nat × (Nat → Int32)
abbrev Ul := Option (Nat × (Nat → Int64))
/-- tables; ints of objects; arrays of ints by owner; references of objects; final arrays of longs; the pools -/
abbrev Ud := Ts × (Nat → Nat → Int32) × (Nat → Nat → Ua) × (Nat → Nat → Option Nat) × (Nat → Nat → Int64) × (Nat → Nat → Ul)
def dI (H : mu_H) : Nat → Nat → Int32 := fun P j => if uo P = true then mu_i H P j else 0
def dA (H : mu_H) : Nat → Nat → Ua := fun P J => if uo P = true ∧ gi_o P J = true then (gi_len H (P, J), fun i => mu_i H (mu_p (mu_r H P J)) i) else (0, fun _ => 0)
def dR (H : mu_H) : Nat → Nat → Option Nat := fun P j => if uo P = true then mu_r H P j else if (P, j) ∈ plp ∧ ¬ P = 114 then mu_r H P j else none
def dL (H : mu_H) : Nat → Nat → Int64 := fun p i => if fl p = true then mu_l H p i else 0
def dP (H : mu_H) : Nat → Nat → Ul := fun p i => if (p, i) ∈ plp then (mu_r H p i).map (fun q => (mu_n H q, fun k => mu_l H q k)) else none
def ud (m : Nat) (H : mu_H) : Ud := (ak m H, dI H, dA H, dR H, dL H, dP H)
def upI (U : Ud) (P j : Nat) (v : Int32) : Ud := (U.1, f2 U.2.1 P j v, U.2.2)
def upA (U : Ud) (P J i : Nat) (v : Int32) : Ud := (U.1, U.2.1, f2 U.2.2.1 P J ((U.2.2.1 P J).1, fun k => if k = i then v else (U.2.2.1 P J).2 k), U.2.2.2)
def upT (U : Ud) (s : Ts) : Ud := (s, U.2)
def uS (m p : Nat) : Bool := uo p || decide (p = 101 ∨ p = 103 ∨ p = 118 ∨ p = 130 ∨ p = 132 ∨ p = 159 ∨ p = 167 ∨ (m < p ∧ p ≤ m + 37))
/-- what a step of the upper layer leaves; C: how long the tables' arrays may become -/
def ur (m : Nat) (C : Nat → Nat) (H H1 : mu_H) : Prop := hk (uS m) H H1 ∧ ∀ j, j < 28 → gi_cap H1 (ra m j) ≤ max (gi_cap H (ra m j)) (C j)
def um (m : Nat) (H : mu_H) : Prop := gu H ∧ (m = 2 ∨ m = 41)
section UpperData
variable {H H1 H2 : mu_H} {m j d : Nat} {C : Nat → Nat} {U : Ud}
theorem ur.refl (m : Nat) (C : Nat → Nat) (H : mu_H) : ur m C H H := ⟨hk.refl _ H, fun _ _ => Nat.le_max_left _ _⟩
theorem ur.trans (h : ur m C H H1) (h' : ur m C H1 H2) : ur m C H H2 := by
  refine ⟨h.1.trans h'.1, fun j hj => ?_⟩
  have h1 := h.2 j hj
  have h2 := h'.2 j hj
  omega
theorem uo_in {P : Nat} (h : uo P = true) : P = 99 ∨ P = 100 ∨ P = 113 ∨ P = 129 ∨ P = 147 ∨ P = 158 := by
  unfold uo at h
  rw [Bool.or_eq_true, Bool.or_eq_true, Bool.or_eq_true, Bool.or_eq_true, Bool.or_eq_true] at h
  rcases h with e | e | e | e | e | e
  · exact Or.inl (Nat.eq_of_beq_eq_true e)
  · exact Or.inr (Or.inl (Nat.eq_of_beq_eq_true e))
  · exact Or.inr (Or.inr (Or.inl (Nat.eq_of_beq_eq_true e)))
  · exact Or.inr (Or.inr (Or.inr (Or.inl (Nat.eq_of_beq_eq_true e))))
  · exact Or.inr (Or.inr (Or.inr (Or.inr (Or.inl (Nat.eq_of_beq_eq_true e)))))
  · exact Or.inr (Or.inr (Or.inr (Or.inr (Or.inr (Nat.eq_of_beq_eq_true e)))))
theorem uo_k {P : Nat} (h : uo P = true) : (∃ k, gi_k P = some k) ∧ gi_w P = none := by
  rcases uo_in h with e | e | e | e | e | e <;> subst e <;> exact ⟨⟨_, rfl⟩, rfl⟩
theorem ra_uo (hm : m = 2 ∨ m = 41) (hj : j < 28) : uo (ra m j) = false := by
  rcases hm with e | e <;> subst e
  · exact (show ∀ j, j < 28 → uo (ra 2 j) = false by decide +kernel) j hj
  · exact (show ∀ j, j < 28 → uo (ra 41 j) = false by decide +kernel) j hj
theorem ra_ne (hm : m = 2 ∨ m = 41) (hj : j < 28) {P : Nat} (hP : uo P = true) : ra m j ≠ P := fun z => by
  have := ra_uo hm hj
  rw [z, hP] at this
  cases this
theorem uS_uo {P : Nat} (h : uo P = true) : uS m P = true := by
  unfold uS
  rw [h]; rfl
theorem um.cap (h : um m H) {S : Nat → Bool} {i : Nat} (hi : i < 28) (hk' : gk S H H1) (hS : S (ra m i) = false) : gi_cap H1 (ra m i) = gi_cap H (ra m i) := by
  obtain ⟨-, -, -, hrk, hro⟩ := gi_w_ok ((ra_ok h.2).1 i hi)
  unfold gi_cap
  rw [(hk'.obj hrk hS).r, (hk'.2.1 _ (h.1.1.o hro).2.1).2]
/-- a step at one object -/
theorem um.obj (h : um m H) {P : Nat} (hP : uo P = true) (hg : gi H1) (hk' : gk (fun p => Nat.beq p P) H H1) : um m H1 ∧ ur m C H H1 ∧ ak m H1 = ak m H := by
  obtain ⟨a, b⟩ := h.1.gk hg hk'
  refine ⟨⟨a, h.2⟩, ⟨b.mono (fun p hp => by rw [Nat.eq_of_beq_eq_true hp]; exact uS_uo hP), fun j hj => ?_⟩, gT_keep (ra_ok h.2) hk' (fun j hj => beq_f (ra_ne h.2 hj hP))⟩
  rw [h.cap hj hk' (beq_f (ra_ne h.2 hj hP))]
  exact Nat.le_max_left _ _
/-- an int of an object is written -/
theorem um.putI (h : um m H) {P k : Nat} {v : Int32} (hP : uo P = true) : um m (mu_si H P k v) ∧ ur m C H (mu_si H P k v) ∧ ud m (mu_si H P k v) = upI (ud m H) P k v := by
  obtain ⟨⟨kd, hkd⟩, hw⟩ := uo_k hP
  obtain ⟨a, b, c⟩ := h.obj (C := C) hP (h.1.1.si hkd hw) (gk.si (j := k) (x := v) h.1.1 hkd (Nat.beq_refl _))
  refine ⟨a, b, ?_⟩
  have e1 : dI (mu_si H P k v) = f2 (dI H) P k v := by
    funext p i
    unfold dI f2
    rw [mu_i_si]
    by_cases hx : p = P ∧ i = k
    · rw [if_pos hx, if_pos hx, if_pos (by rw [hx.1]; exact hP)]
    · rw [if_neg hx, if_neg hx]
  have e2 : dA (mu_si H P k v) = dA H := by
    funext p i
    unfold dA
    by_cases hx : uo p = true ∧ gi_o p i = true
    · rw [if_pos hx, if_pos hx]
      refine Prod.ext rfl (funext fun q => ?_)
      show mu_i (mu_si H P k v) (mu_p (mu_r H p i)) q = mu_i H (mu_p (mu_r H p i)) q
      rw [mu_i_si, if_neg (fun z => ?_)]
      have h1 := (h.1.1.o hx.2).2.2
      have h2 := h.1.1.2.1 P kd hkd
      have h3 := (gi_k_ok hkd).2
      rw [z.1] at h1
      omega
    · rw [if_neg hx, if_neg hx]
  show (ak m (mu_si H P k v), dI (mu_si H P k v), dA (mu_si H P k v), dR H, dL H, dP H) = (ak m H, f2 (dI H) P k v, dA H, dR H, dL H, dP H)
  rw [c, e1, e2]
/-- an int of an array is written -/
theorem um.putA (h : um m H) {P J k : Nat} {v : Int32} (hP : uo P = true) (ho : gi_o P J = true) : um m (mu_si H (mu_p (mu_r H P J)) k v) ∧ ur m C H (mu_si H (mu_p (mu_r H P J)) k v) ∧ ud m (mu_si H (mu_p (mu_r H P J)) k v) = upA (ud m H) P J k v := by
  have hO := h.1.1.o ho
  have hon : mu_onl H (mu_si H (mu_p (mu_r H P J)) k v) (mu_p (mu_r H P J)) := ⟨rfl, rfl, fun p j hp => by rw [mu_i_si, if_neg (fun z => hp z.1)], rfl⟩
  obtain ⟨a, b, c⟩ := h.obj (C := C) hP (h.1.1.onl hon (Or.inl hO.2.2)) (gk.onla (p := P) (j := J) h.1.1 hon (Nat.beq_refl _) ho)
  refine ⟨a, b, ?_⟩
  have e1 : dI (mu_si H (mu_p (mu_r H P J)) k v) = dI H := by
    funext p i
    unfold dI
    by_cases hx : uo p = true
    · rw [if_pos hx, if_pos hx, mu_i_si, if_neg (fun z => ?_)]
      obtain ⟨⟨kd, hkd⟩, -⟩ := uo_k hx
      have h1 := hO.2.2
      have h2 := h.1.1.2.1 p kd hkd
      have h3 := (gi_k_ok hkd).2
      rw [← z.1] at h1
      omega
    · rw [if_neg hx, if_neg hx]
  have e2 : dA (mu_si H (mu_p (mu_r H P J)) k v) = f2 (dA H) P J ((dA H P J).1, fun q => if q = k then v else (dA H P J).2 q) := by
    funext p i
    unfold f2
    by_cases hpi : p = P ∧ i = J
    · rw [if_pos hpi, hpi.1, hpi.2]
      unfold dA
      rw [if_pos ⟨hP, ho⟩, if_pos ⟨hP, ho⟩]
      refine Prod.ext rfl (funext fun q => ?_)
      show mu_i (mu_si H (mu_p (mu_r H P J)) k v) (mu_p (mu_r H P J)) q = if q = k then v else mu_i H (mu_p (mu_r H P J)) q
      rw [mu_i_si]
      by_cases hq : q = k
      · rw [if_pos ⟨rfl, hq⟩, if_pos hq]
      · rw [if_neg (fun z => hq z.2), if_neg hq]
    · rw [if_neg hpi]
      unfold dA
      by_cases hx : uo p = true ∧ gi_o p i = true
      · rw [if_pos hx, if_pos hx]
        refine Prod.ext rfl (funext fun q => ?_)
        show mu_i (mu_si H (mu_p (mu_r H P J)) k v) (mu_p (mu_r H p i)) q = mu_i H (mu_p (mu_r H p i)) q
        rw [mu_i_si, if_neg (fun z => ?_)]
        refine hpi (h.1.1.2.2.2.2.2.1 p i P J hx.2 ho ?_)
        rw [(h.1.1.o hx.2).1, z.1]
        exact hO.1.symm
      · rw [if_neg hx, if_neg hx]
  show (ak m (mu_si H (mu_p (mu_r H P J)) k v), dI (mu_si H (mu_p (mu_r H P J)) k v), dA (mu_si H (mu_p (mu_r H P J)) k v), dR H, dL H, dP H) = (ak m H, dI H, f2 (dA H) P J ((dA H P J).1, fun q => if q = k then v else (dA H P J).2 q), dR H, dL H, dP H)
  rw [c, e1, e2]
end UpperData
