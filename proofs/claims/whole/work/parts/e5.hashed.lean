/-! RELATION: the table in which classes are looked up -/
/-- M places, n keys; a key is found from where its hash says on, before any empty place -/
def HTB (M n : Nat) (bk ka kb : Nat → Int32) (hh : Int32 → Int32 → Nat) : Prop :=
  (∀ p, p < M → bk p = -1 ∨ ∃ id, id < n ∧ bk p = nI id) ∧
  (∀ id, id < n → ∃ j, j < M ∧ bk ((hh (ka id) (kb id) + j) % M) = nI id ∧ ∀ j', j' < j → ¬ bk ((hh (ka id) (kb id) + j') % M) = -1) ∧
  (∀ i j, i < n → j < n → ka i = ka j → kb i = kb j → i = j) ∧ sm (fun p => if bk p = -1 then 0 else 1) 0 M = n
/-- i places have been asked for a key, in vain -/
def HTS (M n : Nat) (bk ka kb : Nat → Int32) (h i : Nat) (a b : Int32) : Prop := ∀ j, j < i → ∃ id, id < n ∧ bk ((h + j) % M) = nI id ∧ ¬ (ka id = a ∧ kb id = b)
section Hashed
variable {M n h i : Nat} {bk bk' ka kb ka' kb' : Nat → Int32} {hh : Int32 → Int32 → Nat} {a b : Int32}
theorem HTB.none0 (h : ∀ p, p < M → bk p = -1) : HTB M 0 bk ka kb hh := by
  refine ⟨fun p hp => Or.inl (h p hp), fun id hi => absurd hi (Nat.not_lt_zero _), fun i j hi => absurd hi (Nat.not_lt_zero _), ?_⟩
  have key : ∀ m, m ≤ M → sm (fun p => if bk p = -1 then 0 else 1) 0 m = 0 := by
    intro m
    induction m with
    | zero => intro _; rfl
    | succ m ih =>
      intro hm
      rw [sm_last (f := fun p => if bk p = -1 then 0 else 1) (fun _ _ => rfl), ih (by omega), if_pos (h m (by omega))]
  exact key M (Nat.le_refl _)
theorem HTB.room (hT : HTB M n bk ka kb hh) (hn : n < M) (hs : HTS M n bk ka kb h M a b) (hb : n < 2147483648) : False := by
  have hM : 0 < M := by omega
  have all : ∀ p, p < M → ¬ bk p = -1 := fun p hp => by
    obtain ⟨id, h1, h2, -⟩ := hs ((p + (M - h % M)) % M) (Nat.mod_lt _ hM)
    have hlt := Nat.mod_lt h hM
    have e : (h + (p + (M - h % M)) % M) % M = p := by
      rw [Nat.add_mod, Nat.mod_mod, ← Nat.add_mod]
      have : h + (p + (M - h % M)) = p + M * (h / M + 1) := by
        have := Nat.div_add_mod h M
        rw [Nat.mul_add, Nat.mul_one]
        omega
      rw [this, Nat.add_mul_mod_self_left, Nat.mod_eq_of_lt hp]
    rw [e] at h2
    rw [h2]
    exact fun z => nI_neg1 (by omega) z
  have key : ∀ m, m ≤ M → sm (fun p => if bk p = -1 then 0 else 1) 0 m = m := by
    intro m
    induction m with
    | zero => intro _; rfl
    | succ m ih =>
      intro hm
      rw [sm_last (f := fun p => if bk p = -1 then 0 else 1) (fun _ _ => rfl), ih (by omega), if_neg (all m (by omega))]
  have := key M (Nat.le_refl _)
  rw [hT.2.2.2] at this
  omega
theorem HTB.miss (hT : HTB M n bk ka kb hh) (hs : HTS M n bk ka kb (hh a b) i a b) (he : bk ((hh a b + i) % M) = -1) (hb : n < 2147483648) : ∀ id, id < n → ¬ (ka id = a ∧ kb id = b) := by
  rintro id hid ⟨ea, eb⟩
  obtain ⟨j, h1, h2, h3⟩ := hT.2.1 id hid
  rw [ea, eb] at h2 h3
  by_cases hj : j < i
  · obtain ⟨id', y1, y2, y3⟩ := hs j hj
    have := (nI_eq (a := id') (b := id) (by omega) (by omega)).mp (y2.symm.trans h2)
    rw [this] at y3
    exact y3 ⟨ea, eb⟩
  · by_cases e : j = i
    · rw [e, he] at h2
      exact nI_neg1 (by omega) h2.symm
    · exact h3 i (by omega) he
theorem HTB.put (hT : HTB M n bk ka kb hh) (hs : HTS M n bk ka kb (hh a b) i a b) (he : bk ((hh a b + i) % M) = -1) (hi : i < M) (hb : n < 2147483648) (hbk : ∀ p, bk' p = if p = (hh a b + i) % M then nI n else bk p) (hka : ∀ q, ka' q = if q = n then a else ka q) (hkb : ∀ q, kb' q = if q = n then b else kb q) : HTB M (n + 1) bk' ka' kb' hh := by
  have hM : 0 < M := by omega
  have hmis := hT.miss hs he hb
  have nb : ∀ p, ¬ bk p = -1 → ¬ bk' p = -1 := fun p hp => by
    rw [hbk]
    by_cases e : p = (hh a b + i) % M
    · rw [if_pos e]; exact fun z => nI_neg1 (by omega) z
    · rw [if_neg e]; exact hp
  refine ⟨fun p hp => ?_, fun id hid => ?_, fun x y hx hy e1 e2 => ?_, ?_⟩
  · rw [hbk]
    by_cases e : p = (hh a b + i) % M
    · rw [if_pos e]; exact Or.inr ⟨n, by omega, rfl⟩
    · rw [if_neg e]
      rcases hT.1 p hp with z | ⟨id, z1, z2⟩
      · exact Or.inl z
      · exact Or.inr ⟨id, by omega, z2⟩
  · by_cases e : id = n
    · rw [hka, hkb, if_pos e, if_pos e]
      refine ⟨i, hi, by rw [hbk, if_pos rfl, e], fun j' hj' => nb _ ?_⟩
      obtain ⟨id', y1, y2, -⟩ := hs j' hj'
      rw [y2]
      exact fun z => nI_neg1 (by omega) z
    · rw [hka, hkb, if_neg e, if_neg e]
      obtain ⟨j, h1, h2, h3⟩ := hT.2.1 id (by omega)
      refine ⟨j, h1, ?_, fun j' hj' => nb _ (h3 j' hj')⟩
      rw [hbk, if_neg (fun z => ?_)]
      · exact h2
      · rw [z, he] at h2
        exact nI_neg1 (by omega) h2.symm
  · rw [hka, hka] at e1
    rw [hkb, hkb] at e2
    by_cases ex : x = n <;> by_cases ey : y = n
    · omega
    · rw [if_pos ex, if_neg ey] at e1 e2
      exact absurd ⟨e1.symm, e2.symm⟩ (hmis y (by omega))
    · rw [if_neg ex, if_pos ey] at e1 e2
      exact absurd ⟨e1, e2⟩ (hmis x (by omega))
    · rw [if_neg ex, if_neg ey] at e1 e2
      exact hT.2.2.1 x y (by omega) (by omega) e1 e2
  · have u := sm_upd (f := fun p => if bk p = -1 then 0 else 1) (g := fun p => if bk' p = -1 then 0 else 1) (e0 := (hh a b + i) % M) (fun p hp => by rw [hbk p, if_neg hp]) M (Nat.mod_lt _ hM)
    rw [hT.2.2.2] at u
    have e1 : (if bk ((hh a b + i) % M) = -1 then 0 else 1) = 0 := if_pos he
    have e2 : (if bk' ((hh a b + i) % M) = -1 then 0 else 1) = 1 := if_neg (by rw [hbk, if_pos rfl]; exact fun z => nI_neg1 (by omega) z)
    rw [e1, e2] at u
    omega
theorem HTS.next (hs : HTS M n bk ka kb h i a b) {id : Nat} (h1 : id < n) (h2 : bk ((h + i) % M) = nI id) (h3 : ¬ (ka id = a ∧ kb id = b)) : HTS M n bk ka kb h (i + 1) a b := fun j hj => by
  by_cases e : j = i
  · rw [e]; exact ⟨id, h1, h2, h3⟩
  · exact hs j (by omega)
theorem mod_step {M q : Nat} (hM : 0 < M) : (q + 1) % M = if q % M = M - 1 then 0 else q % M + 1 := by
  have hl := Nat.mod_lt q hM
  rw [Nat.add_mod]
  by_cases e : q % M = M - 1
  · rw [if_pos e, e]
    by_cases e1 : M = 1
    · rw [e1]
    · rw [Nat.mod_eq_of_lt (show 1 < M by omega), show M - 1 + 1 = M by omega, Nat.mod_self]
  · rw [if_neg e]
    by_cases e1 : M = 1
    · omega
    · rw [Nat.mod_eq_of_lt (show 1 < M by omega), Nat.mod_eq_of_lt (by omega)]
end Hashed
