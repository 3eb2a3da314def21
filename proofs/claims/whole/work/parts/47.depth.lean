/-! Every method at a depth: what it comes to does not hang on the fuel; contracts out of runs -/
section MuDepth
variable {α : Type} {fin : ev_R → Option α} {run : Nat → List ev_V → List ev_C → Option ev_R} {fds : List (List ev_V)} {jk : Nat} {kb : List (List Int32)} {sc : List ev_V} {nL : Nat} {hh : List (Nat × Nat × Nat × Nat)} {code : List ev_I}
theorem ev_body_go {go go' : ev_F → Option α} {f : ev_F} {r : α} (hgo : ∀ f', go f' = some r → go' f' = some r) (h : ev_body fin run fds jk kb sc nL hh code go f = some r) : ev_body fin run fds jk kb sc nL hh code go' f = some r := by
  obtain ⟨pc, L, S, w, c, n⟩ := f
  unfold ev_body at h ⊢
  cases hf : ev_find code pc with
  | none => simp only [hf] at h; cases h
  | some io =>
    obtain ⟨ins, ops⟩ := io
    simp only [hf] at h ⊢
    have gen : (match ev_stepA fds jk kb sc nL ins ops (pc, L, S, w, c, n) with | some f1 => go f1 | none => none) = some r → (match ev_stepA fds jk kb sc nL ins ops (pc, L, S, w, c, n) with | some f1 => go' f1 | none => none) = some r := by
      cases ev_stepA fds jk kb sc nL ins ops (pc, L, S, w, c, n) with
      | none => exact id
      | some f1 => exact hgo f1
    cases ins
    case invokespecial idx =>
      match ops, h with
      | [], h => cases h
      | [q], h =>
        match S, h with
        | .inl (.ref z) :: S, h =>
          dsimp only at h ⊢
          cases hb : Nat.ble (ev_wds S) 8 with
          | true => rw [hb] at h; exact hgo _ h
          | false => rw [hb] at h; cases h
        | [], h => cases h
        | .inl .null :: _, h => cases h
        | .inl (.int _) :: _, h => cases h
        | .inl (.long _) :: _, h => cases h
        | .inl (.float _) :: _, h => cases h
        | .inl (.double _) :: _, h => cases h
        | .inl (.retAddr _) :: _, h => cases h
        | .inr _ :: _, h => cases h
      | [q, mj], h => cases h
      | q :: mj :: na :: rest, h =>
        dsimp only at h ⊢
        generalize hA : ev_args na S = A at h ⊢
        obtain ⟨as, T⟩ := A
        match T, h with
        | .inl (.ref z) :: S1, h =>
          dsimp only at h ⊢
          cases hb : (Nat.beq as.length na && Nat.ble (ev_wds S1) 8) with
          | false => rw [hb] at h; cases h
          | true =>
            rw [hb] at h
            dsimp only [cond_true] at h ⊢
            generalize hR : run mj (.inl (.ref z) :: as) w = res at h ⊢
            match res, h with
            | some (.inl rv, w1, c1, n1), h => exact hgo _ h
            | some (.inr _, _), h => cases h
            | none, h => cases h
        | [], h => cases h
        | .inl .null :: _, h => cases h
        | .inl (.int _) :: _, h => cases h
        | .inl (.long _) :: _, h => cases h
        | .inl (.float _) :: _, h => cases h
        | .inl (.double _) :: _, h => cases h
        | .inl (.retAddr _) :: _, h => cases h
        | .inr _ :: _, h => cases h
    case invokestatic idx =>
      match ops, h with
      | [], h => cases h
      | [q], h =>
        dsimp only at h ⊢
        generalize hR : ev_acopy (pc, L, S, w, c, n) = res at h ⊢
        match res, h with
        | some f1, h => exact hgo _ h
        | none, h => cases h
      | mj :: na :: rest, h =>
        dsimp only at h ⊢
        generalize hA : ev_args na S = A at h ⊢
        obtain ⟨as, S1⟩ := A
        dsimp only at h ⊢
        cases hb : (Nat.beq as.length na && Nat.ble (ev_wds S1) 8) with
        | false => rw [hb] at h; cases h
        | true =>
          rw [hb] at h
          dsimp only [cond_true] at h ⊢
          generalize hR : run mj as w = res at h ⊢
          match res, h with
          | some (.inl rv, w1, c1, n1), h => exact hgo _ h
          | some (.inr _, _), h => cases h
          | none, h => cases h
    case invokevirtual idx =>
      match ops, h with
      | [], h => cases h
      | [_], h =>
        dsimp only at h ⊢
        generalize hQ : ev_clone (pc, L, S, w, c, n) = t at h ⊢
        match t, h with
        | some f1, h => exact hgo _ h
        | none, h => cases h
      | [_, _], h => cases h
      | mj :: na :: ci :: rest, h =>
        dsimp only at h ⊢
        generalize hA : ev_args na S = A at h ⊢
        obtain ⟨as, T⟩ := A
        match T, h with
        | [], h => cases h
        | o :: S1, h =>
          dsimp only at h ⊢
          cases hb : (Nat.beq as.length na && Nat.ble (ev_wds S1) 8 && ev_body.ev_recv jk w ci o) with
          | false => rw [hb] at h; cases h
          | true =>
            rw [hb] at h
            dsimp only [cond_true] at h ⊢
            generalize hR : run mj (o :: as) w = res at h ⊢
            match res, h with
            | none, h => cases h
            | some (.inl rv, w1, c1, n1), h => exact hgo _ h
            | some (.inr x, w1, c1, n1), h =>
              dsimp only at h ⊢
              generalize hQ : ev_hand hh pc x = t at h ⊢
              match t, h with
              | some t, h => exact hgo _ h
              | none, h => exact h
    case new idx =>
      match ops, h with
      | [a, b, d, e, x], h => exact h
      | [], h => exact gen h
      | [_], h => exact gen h
      | [_, _], h => exact gen h
      | [_, _, _], h => exact gen h
      | [_, _, _, _], h => exact gen h
      | _ :: _ :: _ :: _ :: _ :: _ :: _, h => exact gen h
    all_goals first | exact gen h | exact h
theorem ev_loop_more {ret : Option FieldType} {r : ev_R} : ∀ (k : Nat) (f : ev_F), ev_loop ret run fds jk kb sc nL hh code k f = some r → ev_loop ret run fds jk kb sc nL hh code (k + 1) f = some r
  | 0, f, h => by cases h
  | k + 1, f, h => by
    have h : ev_body (fun r => bif ev_rok ret hh r then some r else none) run fds jk kb sc nL hh code (ev_loop ret run fds jk kb sc nL hh code k) f = some r := h
    exact ev_body_go (fun f' hf' => ev_loop_more k f' hf') h
theorem ev_loop_le {ret : Option FieldType} {r : ev_R} {f : ev_F} {a b : Nat} (hab : a ≤ b) (h : ev_loop ret run fds jk kb sc nL hh code a f = some r) : ev_loop ret run fds jk kb sc nL hh code b f = some r := by
  obtain ⟨d, rfl⟩ : ∃ d, b = a + d := ⟨b - a, by omega⟩
  induction d with
  | zero => exact h
  | succ d ih => exact ev_loop_more (a + d) f (ih (by omega))
theorem ev_loop_one {ret : Option FieldType} {r r' : ev_R} {f : ev_F} {a b : Nat} (h : ev_loop ret run fds jk kb sc nL hh code a f = some r) (h' : ev_loop ret run fds jk kb sc nL hh code b f = some r') : r = r' := by
  have h1 := ev_loop_le (b := a + b) (by omega) h
  have h2 := ev_loop_le (b := a + b) (by omega) h'
  exact Option.some.inj (h1.symm.trans h2)
end MuDepth
/-- a method comes to r by the methods 'run' -/
def mu_O (run : Nat → List ev_V → List ev_C → Option ev_R) (mi : Nat) (as : List ev_V) (w : List ev_C) (r : ev_R) : Prop :=
  ∃ (M : ev_M) (fuel : Nat), ev_ms mi = some M ∧ Nat.ble (ev_wds as) M.1 = true ∧ ev_loop M.2.1 run ev_fds ev_jk ev_kb [] M.1 M.2.2.1 M.2.2.2 fuel (0, ev_ent 0 as, [], w, 0, 0) = some r
theorem mu_O_one {run : Nat → List ev_V → List ev_C → Option ev_R} {mi : Nat} {as : List ev_V} {w : List ev_C} {r r' : ev_R} (h : mu_O run mi as w r) (h' : mu_O run mi as w r') : r = r' := by
  obtain ⟨M, a, h1, -, h2⟩ := h
  obtain ⟨M', a', h1', -, h2'⟩ := h'
  cases h1.symm.trans h1'
  exact ev_loop_one h2 h2'
/-- the methods, d calls deep -/
noncomputable def mu_D : Nat → Nat → List ev_V → List ev_C → Option ev_R
  | 0, _, _, _ => none
  | d + 1, mi, as, w => @dite _ (∃ r, mu_O (mu_D d) mi as w r) (Classical.propDecidable _) (fun h => some (Classical.choose h)) (fun _ => none)
theorem mu_D_of {d mi : Nat} {as : List ev_V} {w : List ev_C} {r : ev_R} (h : mu_O (mu_D d) mi as w r) : mu_D (d + 1) mi as w = some r := by
  have hex : ∃ r, mu_O (mu_D d) mi as w r := ⟨r, h⟩
  show @dite _ (∃ r, mu_O (mu_D d) mi as w r) (Classical.propDecidable _) (fun h => some (Classical.choose h)) (fun _ => none) = some r
  rw [dif_pos hex]
  exact congrArg some (mu_O_one (Classical.choose_spec hex) h)
theorem mu_D_to {d mi : Nat} {as : List ev_V} {w : List ev_C} {r : ev_R} (h : mu_D (d + 1) mi as w = some r) : mu_O (mu_D d) mi as w r := by
  have h : @dite _ (∃ r, mu_O (mu_D d) mi as w r) (Classical.propDecidable _) (fun h => some (Classical.choose h)) (fun _ => none) = some r := h
  by_cases hex : ∃ r, mu_O (mu_D d) mi as w r
  · rw [dif_pos hex] at h
    cases h
    exact Classical.choose_spec hex
  · rw [dif_neg hex] at h
    cases h
/-- a method's contract out of its body -/
def mu_ent : Nat → List mu_V → mu_L
  | _, [] => []
  | i, v :: t => (i, v) :: mu_ent (bif mu_c1 v then i + 1 else i + 2) t
theorem mu_ent_m : ∀ (i : Nat) (as : List mu_V), ev_ent i (as.map mu_v) = mu_m (mu_ent i as)
  | _, [] => rfl
  | i, v :: t => by
    show (i, mu_v v) :: ev_ent (bif ev_c1 (mu_v v) then i + 1 else i + 2) (t.map mu_v) = (i, mu_v v) :: mu_m (mu_ent (bif mu_c1 v then i + 1 else i + 2) t)
    rw [mu_v_c1, mu_ent_m]
theorem mu_meth {d j : Nat} {M : ev_M} {as : List mu_V} {H : mu_H} {Φ : mu_R → Prop} (hM : ev_ms j = some M) (hw : Nat.ble (mu_wds as) M.1 = true) (h : mu_HT (mu_D d) M (0, mu_ent 0 as, [], H) Φ) : mu_MT (mu_D (d + 1)) j as H Φ := by
  intro w hr
  obtain ⟨r, fuel, res, h1, h2, h3⟩ := h w 0 0 hr
  refine ⟨r, res, mu_D_of ⟨M, fuel, hM, by rw [mu_wds_m]; exact hw, ?_⟩, h2, h3⟩
  rw [mu_ent_m]
  exact h1
