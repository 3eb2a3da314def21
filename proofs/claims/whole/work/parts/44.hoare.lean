/-! RUNS OF METHODS: what a frame comes to, over the evaluator; blocks, branches, calls, ends -/
/-- what a method comes to: it returned, or threw an exception of a number; the heap -/
abbrev mu_R : Type := (Option mu_V ⊕ Nat) × mu_H
def mu_out (r : mu_R) : Option ev_V ⊕ Nat :=
  match r.1 with
  | .inl v => .inl (v.map mu_v)
  | .inr x => .inr x
/-- the evaluator's result stands for r, begun at the heap H with the counts c, n -/
def mu_res (H : mu_H) (c n : Nat) (res : ev_R) (r : mu_R) : Prop :=
  res.1 = mu_out r ∧ mu_rep r.2 res.2.1 ∧ res.2.2.1 = c + (mu_c r.2 - mu_c H) ∧ res.2.2.2 = n + (mu_s r.2 - mu_s H) ∧ mu_c H ≤ mu_c r.2 ∧ mu_s H ≤ mu_s r.2
theorem mu_res_from {H H1 : mu_H} {c n : Nat} {res : ev_R} {r : mu_R} (h1 : mu_c H ≤ mu_c H1) (h2 : mu_s H ≤ mu_s H1) (h : mu_res H1 (c + (mu_c H1 - mu_c H)) (n + (mu_s H1 - mu_s H)) res r) : mu_res H c n res r := by
  obtain ⟨a1, a2, a3, a4, a5, a6⟩ := h
  exact ⟨a1, a2, by omega, by omega, by omega, by omega⟩
section MuRun
variable {run : Nat → List ev_V → List ev_C → Option ev_R} {M : ev_M}
/-- from the frame f the method M comes to a result with Φ -/
def mu_HT (run : Nat → List ev_V → List ev_C → Option ev_R) (M : ev_M) (f : mu_F) (Φ : mu_R → Prop) : Prop :=
  ∀ (w : List ev_C) (c n : Nat), mu_rep f.2.2.2 w → ∃ (r : mu_R) (fuel : Nat) (res : ev_R), ev_loop M.2.1 run ev_fds ev_jk ev_kb [] M.1 M.2.2.1 M.2.2.2 fuel (mu_e f w c n) = some res ∧ mu_res f.2.2.2 c n res r ∧ Φ r
theorem mu_HT.imp {f : mu_F} {Φ Ψ : mu_R → Prop} (h : mu_HT run M f Φ) (hi : ∀ r, Φ r → Ψ r) : mu_HT run M f Ψ := by
  intro w c n hr
  obtain ⟨r, fuel, res, h1, h2, h3⟩ := h w c n hr
  exact ⟨r, fuel, res, h1, h2, hi r h3⟩
/-- a method of the tables: each of its instructions is what the tables say -/
def mu_good (M : ev_M) : Prop := ∃ (own nm : String), ∀ i ∈ M.2.2.2, ev_ok2 own nm i.1 i.2.1 i.2.2 = true
/-- one step -/
theorem mu_step_ht {f f1 : mu_F} {ins : Instr} {ops : List Nat} {C : List Prop} {Φ : mu_R → Prop} (hM : mu_good M) (hf : ev_find M.2.2.2 f.1 = some (ins, ops)) (hx : mu_x ins ops M.1 f = some (f1, C)) (hC : mu_all C) (h : mu_HT run M f1 Φ) : mu_HT run M f Φ := by
  intro w c n hr
  obtain ⟨own, nm, hall⟩ := hM
  have hok := hall _ (ev_find_mem hf)
  obtain ⟨w1, a1, a2, a3, a4⟩ := mu_x_ok (c := c) (n := n) hok hx hC hr
  obtain ⟨r, fuel, res, b1, b2, b3⟩ := h w1 _ _ a2
  refine ⟨r, fuel + 1, res, ?_, mu_res_from a3 a4 b2, b3⟩
  show ev_body (fun r => bif ev_rok M.2.1 M.2.2.1 r then some r else none) run ev_fds ev_jk ev_kb [] M.1 M.2.2.1 M.2.2.2 (ev_loop M.2.1 run ev_fds ev_jk ev_kb [] M.1 M.2.2.1 M.2.2.2 fuel) (mu_e f w c n) = some res
  unfold ev_body
  have hf' : ev_find M.2.2.2 (mu_e f w c n).1 = some (ins, ops) := hf
  rw [hf']
  have hgo : (match ev_stepA ev_fds ev_jk ev_kb [] M.1 ins ops (mu_e f w c n) with | some f1 => ev_loop M.2.1 run ev_fds ev_jk ev_kb [] M.1 M.2.2.1 M.2.2.2 fuel f1 | none => none) = some res := by
    rw [ev_stepA_of a1]
    exact b1
  cases ins <;> first | exact hgo | (cases hx; done)
def mu_run (code : List ev_I) (nL : Nat) : Nat → mu_F → Option (mu_F × List Prop)
  | 0, f => some (f, [])
  | k + 1, f =>
    match ev_find code f.1 with
    | none => none
    | some (ins, ops) =>
      match mu_x ins ops nL f with
      | none => none
      | some (f1, C1) =>
        match mu_run code nL k f1 with
        | none => none
        | some (f2, C2) => some (f2, C1 ++ C2)
/-- a block -/
theorem mu_go (hM : mu_good M) : ∀ {k : Nat} {f f1 : mu_F} {C : List Prop} {Φ : mu_R → Prop}, mu_run M.2.2.2 M.1 k f = some (f1, C) → mu_all C → mu_HT run M f1 Φ → mu_HT run M f Φ
  | 0, f, f1, C, Φ, h, hC, hG => by
    cases h
    exact hG
  | k + 1, f, f1, C, Φ, h, hC, hG => by
    unfold mu_run at h
    split at h
    · cases h
    · rename_i ins ops hf
      split at h
      · cases h
      · rename_i f2 C1 hx
        split at h
        · cases h
        · rename_i f3 C2 hr
          cases h
          obtain ⟨q1, q2⟩ := mu_all_app hC
          exact mu_step_ht hM hf hx q1 (mu_go hM hr q2 hG)
/-- the condition of a branch, where it goes if it holds, and where if not -/
def mu_br (ins : Instr) (ops : List Nat) (f : mu_F) : Option (Prop × Nat × Nat × mu_L × List mu_V × mu_H × List Prop) :=
  match ins with
  | .if_icmp k _ => match f, ops with
    | (pc, L, .inl y :: .inl x :: S, H), [t] =>
      match k with
      | .eq => some (x = y, t, pc + 3, L, S, H, [])
      | .ne => some (x = y, pc + 3, t, L, S, H, [])
      | .lt => some (x < y, t, pc + 3, L, S, H, [])
      | .ge => some (x < y, pc + 3, t, L, S, H, [])
      | .gt => some (y < x, t, pc + 3, L, S, H, [])
      | .le => some (y < x, pc + 3, t, L, S, H, [])
    | _, _ => none
  | .ifCond k _ => match f, ops with
    | (pc, L, .inl x :: S, H), [t] =>
      match k with
      | .eq => some (x = 0, t, pc + 3, L, S, H, [])
      | .ne => some (x = 0, pc + 3, t, L, S, H, [])
      | .lt => some (x < 0, t, pc + 3, L, S, H, [])
      | .ge => some (x < 0, pc + 3, t, L, S, H, [])
      | .gt => some (0 < x, t, pc + 3, L, S, H, [])
      | .le => some (0 < x, pc + 3, t, L, S, H, [])
    | _, _ => none
  | .ifnull _ => match f, ops with
    | (pc, L, .inr (.inr o) :: S, H), [t] => some (o = none, t, pc + 3, L, S, H, [o ≠ some 3000000])
    | _, _ => none
  | .ifnonnull _ => match f, ops with
    | (pc, L, .inr (.inr o) :: S, H), [t] => some (o = none, pc + 3, t, L, S, H, [o ≠ some 3000000])
    | _, _ => none
  | _ => none
theorem mu_lt_int (x y : Int32) : ev_lt (.inl (.int x)) (.inl (.int y)) = some (decide (x < y)) := by
  show (bif decide (x.toInt < y.toInt) then some true else bif decide (y.toInt ≤ x.toInt) then some false else none) = _
  by_cases h : x.toInt < y.toInt
  · have h' : x < y := Int32.lt_iff_toInt_lt.mpr h
    simp [h, h']
  · have h' : ¬ x < y := fun z => h (Int32.lt_iff_toInt_lt.mp z)
    have h2 : y.toInt ≤ x.toInt := by omega
    simp [h, h', h2]
theorem mu_eq_int (x y : Int32) : ev_eq (.inl (.int x)) (.inl (.int y)) = some (decide (x = y)) := by
  show (bif decide (x.toInt < y.toInt) then some false else bif decide (y.toInt < x.toInt) then some false else bif decide (x.toInt = x.toInt) && decide (y.toInt = y.toInt) && decide (x.toInt = y.toInt) then some true else none) = _
  by_cases h : x = y
  · subst h
    simp
  · have h' : ¬ x.toInt = y.toInt := fun z => h (Int32.toInt_inj.mp z)
    by_cases h1 : x.toInt < y.toInt
    · simp [h, h1]
    · have h2 : y.toInt < x.toInt := by omega
      simp [h, h1, h2]
theorem mu_null {o : Option Nat} (h : o ≠ some 3000000) : ev_null (mu_v (.inr (.inr o))) = some (decide (o = none)) := by
  cases o with
  | none => rfl
  | some k =>
    have hk : Nat.beq k 3000000 = false := by
      cases hb : Nat.beq k 3000000 with
      | false => rfl
      | true => exact absurd (Nat.eq_of_beq_eq_true hb) (fun e => h (by rw [e]))
    show ev_null (bif Nat.ble 1000000 k then (bif Nat.beq k 3000000 then _ else _) else _) = some false
    rw [hk]
    cases Nat.ble 1000000 k <;> rfl
/-- a branch is the evaluator's -/
theorem mu_br_ok {ins : Instr} {ops : List Nat} {f : mu_F} {P : Prop} {a b : Nat} {L : mu_L} {S : List mu_V} {H : mu_H} {C : List Prop} {nL c n : Nat} {w : List ev_C} (h : mu_br ins ops f = some (P, a, b, L, S, H, C)) (hC : mu_all C) (q : Nat) (hq : (P ∧ q = a) ∨ (¬ P ∧ q = b)) : ev_step ev_fds ev_jk ev_kb [] nL ins ops (mu_e f w c n) = some (mu_e (q, L, S, H) w c n) ∧ f.2.2.2 = H := by
  unfold mu_br at h
  split at h
  · split at h
    · rename_i pc L0 y x S0 H0 t
      split at h
      all_goals (cases h; refine ⟨?_, rfl⟩)
      · show (match ev_go (ev_eq (.inl (.int x)) (.inl (.int y))) a (pc + 3) with | some q => some (q, mu_m L, S.map mu_v, w, c, n) | none => none) = _
        rw [mu_eq_int]
        rcases hq with ⟨z, rfl⟩ | ⟨z, rfl⟩
        · rw [decide_eq_true z]; rfl
        · rw [decide_eq_false z]; rfl
      · show (match ev_go (ev_not (ev_eq (.inl (.int x)) (.inl (.int y)))) b (pc + 3) with | some q => some (q, mu_m L, S.map mu_v, w, c, n) | none => none) = _
        rw [mu_eq_int]
        rcases hq with ⟨z, rfl⟩ | ⟨z, rfl⟩
        · rw [decide_eq_true z]; rfl
        · rw [decide_eq_false z]; rfl
      · show (match ev_go (ev_lt (.inl (.int x)) (.inl (.int y))) a (pc + 3) with | some q => some (q, mu_m L, S.map mu_v, w, c, n) | none => none) = _
        rw [mu_lt_int]
        rcases hq with ⟨z, rfl⟩ | ⟨z, rfl⟩
        · rw [decide_eq_true z]; rfl
        · rw [decide_eq_false z]; rfl
      · show (match ev_go (ev_not (ev_lt (.inl (.int x)) (.inl (.int y)))) b (pc + 3) with | some q => some (q, mu_m L, S.map mu_v, w, c, n) | none => none) = _
        rw [mu_lt_int]
        rcases hq with ⟨z, rfl⟩ | ⟨z, rfl⟩
        · rw [decide_eq_true z]; rfl
        · rw [decide_eq_false z]; rfl
      · show (match ev_go (ev_lt (.inl (.int y)) (.inl (.int x))) a (pc + 3) with | some q => some (q, mu_m L, S.map mu_v, w, c, n) | none => none) = _
        rw [mu_lt_int]
        rcases hq with ⟨z, rfl⟩ | ⟨z, rfl⟩
        · rw [decide_eq_true z]; rfl
        · rw [decide_eq_false z]; rfl
      · show (match ev_go (ev_not (ev_lt (.inl (.int y)) (.inl (.int x)))) b (pc + 3) with | some q => some (q, mu_m L, S.map mu_v, w, c, n) | none => none) = _
        rw [mu_lt_int]
        rcases hq with ⟨z, rfl⟩ | ⟨z, rfl⟩
        · rw [decide_eq_true z]; rfl
        · rw [decide_eq_false z]; rfl
    · cases h
  · split at h
    · rename_i pc L0 x S0 H0 t
      split at h
      all_goals (cases h; refine ⟨?_, rfl⟩)
      · show (match ev_go (ev_eq (.inl (.int x)) (.inl (.int 0))) a (pc + 3) with | some q => some (q, mu_m L, S.map mu_v, w, c, n) | none => none) = _
        rw [mu_eq_int]
        rcases hq with ⟨z, rfl⟩ | ⟨z, rfl⟩
        · rw [decide_eq_true z]; rfl
        · rw [decide_eq_false z]; rfl
      · show (match ev_go (ev_not (ev_eq (.inl (.int x)) (.inl (.int 0)))) b (pc + 3) with | some q => some (q, mu_m L, S.map mu_v, w, c, n) | none => none) = _
        rw [mu_eq_int]
        rcases hq with ⟨z, rfl⟩ | ⟨z, rfl⟩
        · rw [decide_eq_true z]; rfl
        · rw [decide_eq_false z]; rfl
      · show (match ev_go (ev_lt (.inl (.int x)) (.inl (.int 0))) a (pc + 3) with | some q => some (q, mu_m L, S.map mu_v, w, c, n) | none => none) = _
        rw [mu_lt_int]
        rcases hq with ⟨z, rfl⟩ | ⟨z, rfl⟩
        · rw [decide_eq_true z]; rfl
        · rw [decide_eq_false z]; rfl
      · show (match ev_go (ev_not (ev_lt (.inl (.int x)) (.inl (.int 0)))) b (pc + 3) with | some q => some (q, mu_m L, S.map mu_v, w, c, n) | none => none) = _
        rw [mu_lt_int]
        rcases hq with ⟨z, rfl⟩ | ⟨z, rfl⟩
        · rw [decide_eq_true z]; rfl
        · rw [decide_eq_false z]; rfl
      · show (match ev_go (ev_lt (.inl (.int 0)) (.inl (.int x))) a (pc + 3) with | some q => some (q, mu_m L, S.map mu_v, w, c, n) | none => none) = _
        rw [mu_lt_int]
        rcases hq with ⟨z, rfl⟩ | ⟨z, rfl⟩
        · rw [decide_eq_true z]; rfl
        · rw [decide_eq_false z]; rfl
      · show (match ev_go (ev_not (ev_lt (.inl (.int 0)) (.inl (.int x)))) b (pc + 3) with | some q => some (q, mu_m L, S.map mu_v, w, c, n) | none => none) = _
        rw [mu_lt_int]
        rcases hq with ⟨z, rfl⟩ | ⟨z, rfl⟩
        · rw [decide_eq_true z]; rfl
        · rw [decide_eq_false z]; rfl
    · cases h
  · split at h
    · rename_i pc L0 o S0 H0 t
      cases h
      refine ⟨?_, rfl⟩
      show (match ev_null (mu_v (.inr (.inr o))) with | some z => some (bif z == true then a else pc + 3, mu_m L, S.map mu_v, w, c, n) | none => none) = _
      rw [mu_null hC]
      rcases hq with ⟨z, rfl⟩ | ⟨z, rfl⟩
      · rw [decide_eq_true z]; rfl
      · rw [decide_eq_false z]; rfl
    · cases h
  · split at h
    · rename_i pc L0 o S0 H0 t
      cases h
      refine ⟨?_, rfl⟩
      show (match ev_null (mu_v (.inr (.inr o))) with | some z => some (bif z == false then b else pc + 3, mu_m L, S.map mu_v, w, c, n) | none => none) = _
      rw [mu_null hC]
      rcases hq with ⟨z, rfl⟩ | ⟨z, rfl⟩
      · rw [decide_eq_true z]; rfl
      · rw [decide_eq_false z]; rfl
    · cases h
  · cases h
def mu_brf (M : ev_M) (f : mu_F) : Option (Prop × Nat × Nat × mu_L × List mu_V × mu_H × List Prop) :=
  match ev_find M.2.2.2 f.1 with
  | none => none
  | some (ins, ops) => mu_br ins ops f
/-- a branch -/
theorem mu_if {f : mu_F} {P : Prop} {a b : Nat} {L : mu_L} {S : List mu_V} {H : mu_H} {C : List Prop} {Φ : mu_R → Prop} (h : mu_brf M f = some (P, a, b, L, S, H, C)) (hC : mu_all C) (ht : P → mu_HT run M (a, L, S, H) Φ) (hf : ¬ P → mu_HT run M (b, L, S, H) Φ) : mu_HT run M f Φ := by
  unfold mu_brf at h
  split at h
  · cases h
  · rename_i ins ops hfind
    have key : ∀ q, (P ∧ q = a) ∨ (¬ P ∧ q = b) → mu_HT run M (q, L, S, H) Φ → mu_HT run M f Φ := by
      intro q hq hG w c n hr
      obtain ⟨e1, e2⟩ := mu_br_ok (nL := M.1) (c := c) (n := n) (w := w) h hC q hq
      rw [e2] at hr
      obtain ⟨r, fuel, res, b1, b2, b3⟩ := hG w c n hr
      refine ⟨r, fuel + 1, res, ?_, by rw [e2]; exact b2, b3⟩
      show ev_body (fun r => bif ev_rok M.2.1 M.2.2.1 r then some r else none) run ev_fds ev_jk ev_kb [] M.1 M.2.2.1 M.2.2.2 (ev_loop M.2.1 run ev_fds ev_jk ev_kb [] M.1 M.2.2.1 M.2.2.2 fuel) (mu_e f w c n) = some res
      unfold ev_body
      have hf' : ev_find M.2.2.2 (mu_e f w c n).1 = some (ins, ops) := hfind
      rw [hf']
      have hgo : (match ev_stepA ev_fds ev_jk ev_kb [] M.1 ins ops (mu_e f w c n) with | some f1 => ev_loop M.2.1 run ev_fds ev_jk ev_kb [] M.1 M.2.2.1 M.2.2.2 fuel f1 | none => none) = some res := by
        rw [ev_stepA_of e1]
        exact b1
      cases ins <;> first | exact hgo | (cases h; done)
    by_cases hP : P
    · exact key a (Or.inl ⟨hP, rfl⟩) (ht hP)
    · exact key b (Or.inr ⟨hP, rfl⟩) (hf hP)
end MuRun
