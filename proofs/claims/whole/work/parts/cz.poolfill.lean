/-! FILLING AN ARRAY OF A POOL -/
def upQ (V : Ud) (p i b : Nat) (g : Nat → Int64) (k : Nat) : Ud := (V.1, V.2.1, V.2.2.1, V.2.2.2.1, V.2.2.2.2.1, f2 V.2.2.2.2.2 p i ((V.2.2.2.2.2 p i).map (fun x => (x.1, fun s => if b ≤ s ∧ s < b + k then g (s - b) else x.2 s))))
section PoolFill
variable {m : Nat} {H : mu_H} {V : Ud} {C : Nat → Nat} {p i b k q n : Nat} {g f : Nat → Int64}
theorem f2_at {α : Type} (f : Nat → Nat → α) (P j : Nat) (v : α) : f2 f P j v P j = v := if_pos ⟨rfl, rfl⟩
theorem f2_ff {α : Type} (f : Nat → Nat → α) (P j : Nat) (v w : α) : f2 (f2 f P j v) P j w = f2 f P j w := by
  funext a c
  unfold f2
  by_cases h : a = P ∧ c = j
  · rw [if_pos h, if_pos h]
  · rw [if_neg h, if_neg h, if_neg h]
theorem upQ_zero : upQ V p i b g 0 = V := by
  have z : f2 V.2.2.2.2.2 p i ((V.2.2.2.2.2 p i).map (fun x => (x.1, fun s => if b ≤ s ∧ s < b + 0 then g (s - b) else x.2 s))) = V.2.2.2.2.2 := by
    funext a c
    unfold f2
    by_cases h : a = p ∧ c = i
    · rw [if_pos h, h.1, h.2]
      cases V.2.2.2.2.2 p i with
      | none => rfl
      | some x => exact congrArg some (Prod.ext rfl (funext fun s => if_neg (by omega)))
    · rw [if_neg h]
  unfold upQ
  rw [z]
theorem upQ_succ : upP (upQ V p i b g k) p i (b + k) (g k) = upQ V p i b g (k + 1) := by
  unfold upP upQ
  show (V.1, V.2.1, V.2.2.1, V.2.2.2.1, V.2.2.2.2.1, f2 (f2 V.2.2.2.2.2 p i _) p i ((f2 V.2.2.2.2.2 p i _ p i).map _)) = _
  rw [f2_ff, f2_at, Option.map_map]
  have z : (V.2.2.2.2.2 p i).map ((fun x : Nat × (Nat → Int64) => (x.1, fun q => if q = b + k then g k else x.2 q)) ∘ fun x => (x.1, fun s => if b ≤ s ∧ s < b + k then g (s - b) else x.2 s)) = (V.2.2.2.2.2 p i).map (fun x => (x.1, fun s => if b ≤ s ∧ s < b + (k + 1) then g (s - b) else x.2 s)) := by
    cases V.2.2.2.2.2 p i with
    | none => rfl
    | some x =>
      refine congrArg some (Prod.ext rfl (funext fun s => ?_))
      show (if s = b + k then g k else if b ≤ s ∧ s < b + k then g (s - b) else x.2 s) = if b ≤ s ∧ s < b + (k + 1) then g (s - b) else x.2 s
      by_cases h1 : s = b + k
      · rw [if_pos h1, if_pos (by omega), h1, Nat.add_sub_cancel_left]
      · rw [if_neg h1]
        by_cases h2 : b ≤ s ∧ s < b + k
        · rw [if_pos h2, if_pos (by omega)]
        · rw [if_neg h2, if_neg (by omega)]
  rw [z]
theorem um.fP (h : um m H) (e : ud m H = V) (hp : (p, i) ∈ plp) (hq : mu_r H p i = some q) : um m (ml_fill H q b g k) ∧ ur m C H (ml_fill H q b g k) ∧ ud m (ml_fill H q b g k) = upQ V p i b g k ∧ mu_r (ml_fill H q b g k) p i = some q := by
  induction k with
  | zero => rw [ml_fill_zero, upQ_zero]; exact ⟨h, ur.refl m C H, e, hq⟩
  | succ k ih =>
    obtain ⟨u, r, d, rr⟩ := ih
    obtain ⟨u', r', d'⟩ := u.putP (C := C) (k := b + k) (v := g k) hp rr
    rw [← ml_fill_succ, ← upQ_succ, ← d]
    exact ⟨u', r.trans r', d', rr⟩
theorem um.cLP {p0 sp : Nat} (h : um m H) (e : ud m H = V) (hp0 : fl p0 = true) (hp : (p, i) ∈ plp) (hq : mu_r H p i = some q) : um m (mu_cpl H p0 sp q b k) ∧ ur m C H (mu_cpl H p0 sp q b k) ∧ ud m (mu_cpl H p0 sp q b k) = upQ V p i b (fun j => V.2.2.2.2.1 p0 (sp + j)) k := by
  have z : mu_cpl H p0 sp q b k = ml_fill H q b (fun j => mu_l H p0 (sp + j)) k := rfl
  rw [z, show (fun j => mu_l H p0 (sp + j)) = fun j => V.2.2.2.2.1 p0 (sp + j) from funext fun j => ud_l e hp0]
  obtain ⟨a, b, c, -⟩ := h.fP (C := C) e hp hq
  exact ⟨a, b, c⟩
/-- what the pool holds then -/
theorem upQ_at (hv : V.2.2.2.2.2 p i = some (n, f)) : (upQ V p i b g k).2.2.2.2.2 p i = some (n, fun s => if b ≤ s ∧ s < b + k then g (s - b) else f s) := by
  show f2 V.2.2.2.2.2 p i _ p i = _
  rw [f2_at, hv]
  rfl
theorem upQ_ne {a c : Nat} (h : ¬ (a = p ∧ c = i)) : (upQ V p i b g k).2.2.2.2.2 a c = V.2.2.2.2.2 a c := if_neg h
theorem upC_at {N : Nat} : (upC V p i N).2.2.2.2.2 p i = some (N, fun _ => 0) := f2_at _ _ _ _
theorem upC_ne {N a c : Nat} (h : ¬ (a = p ∧ c = i)) : (upC V p i N).2.2.2.2.2 a c = V.2.2.2.2.2 a c := if_neg h
theorem uq.Q {F : Uf} {U : Ud} (h : uq F U V) (hp : F.p = true) : uq F U (upQ V p i b g k) := h.trans ⟨fun _ _ => rfl, fun _ _ _ => rfl, fun _ _ _ => rfl, fun _ _ _ => ⟨rfl, rfl⟩, fun _ _ => rfl, fun z => by rw [hp] at z; cases z⟩
theorem uq.Cp {F : Uf} {U : Ud} {N : Nat} (h : uq F U V) (hp : F.p = true) : uq F U (upC V p i N) := h.trans ⟨fun _ _ => rfl, fun _ _ _ => rfl, fun _ _ _ => rfl, fun _ _ _ => ⟨rfl, rfl⟩, fun _ _ => rfl, fun z => by rw [hp] at z; cases z⟩
end PoolFill
