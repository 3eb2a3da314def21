/-! The evaluator's loop holds of the machine -/
theorem ev_find_mem : ∀ {code : List ev_I} {pc : Nat} {q : Instr × List Nat}, ev_find code pc = some q → (pc, q.1, q.2) ∈ code
  | [], _, _, h => by cases h
  | (a, i, o) :: t, pc, q, h => by
    cases hb : Nat.beq a pc with
    | true =>
      have e := Nat.eq_of_beq_eq_true hb
      subst e
      simp [ev_find] at h
      subst h
      exact List.mem_cons_self
    | false =>
      simp [ev_find, hb] at h
      exact List.mem_cons_of_mem _ (ev_find_mem h)
theorem ev_args_split {na : Nat} {S as T : List ev_V} (h : ev_args na S = (as, T)) : S = as.reverse ++ T := by
  unfold ev_args at h
  cases h
  rw [List.reverse_reverse, List.take_append_drop]
set_option maxHeartbeats 4000000 in
theorem ev_step_mono {fds : List (List ev_V)} {jk : Nat} {kb : List (List Int32)} {sc : List ev_V} {nL : Nat} {ins : Instr} {ops : List Nat} {f f' : ev_F} (h : ev_step fds jk kb sc nL ins ops f = some f') : f.2.2.2.2.1 ≤ f'.2.2.2.2.1 ∧ f.2.2.2.2.2 ≤ f'.2.2.2.2.2 := by
  obtain ⟨pc, L, S, w, c, n⟩ := f
  unfold ev_step at h
  split at h
  all_goals try unfold ev_load at h
  all_goals try unfold ev_store at h
  all_goals try unfold ev_bin at h
  all_goals try unfold ev_un at h
  all_goals try unfold ev_jump at h
  all_goals try unfold ev_jnull at h
  all_goals try unfold ev_getf at h
  all_goals try unfold ev_putf at h
  all_goals try unfold ev_alen at h
  all_goals try unfold ev_ald at h
  all_goals try unfold ev_aast at h
  all_goals try unfold ev_aald at h
  all_goals try unfold ev_storeL at h
  all_goals try unfold ev_binL at h
  all_goals try unfold ev_shL at h
  all_goals try unfold ev_ast at h
  all_goals try unfold ev_newarr at h
  all_goals try simp only [Bool.cond_eq_ite] at h
  all_goals repeat' split at h
  all_goals first | (cases h; exact ⟨Nat.le_refl _, Nat.le_refl _⟩) | (cases h; exact ⟨Nat.le_succ _, Nat.le_add_right _ _⟩) | (cases h; done) | (cases h; simp_all; done) | (cases h; simp_all; omega)
theorem ev_step2_mono {jk : Nat} {ins : Instr} {ops : List Nat} {f f' : ev_F} (h : ev_step2 jk ins ops f = some f') : f.2.2.2.2.1 ≤ f'.2.2.2.2.1 ∧ f.2.2.2.2.2 ≤ f'.2.2.2.2.2 := by
  obtain ⟨pc, L, S, w, c, n⟩ := f
  unfold ev_step2 at h
  split at h
  all_goals try simp only [Bool.cond_eq_ite] at h
  all_goals repeat' split at h
  all_goals first | (cases h; exact ⟨Nat.le_refl _, Nat.le_refl _⟩) | (cases h; done) | (cases h; simp_all; done) | (cases h; simp_all; omega)
theorem ev_stepA_mono {fds : List (List ev_V)} {jk : Nat} {kb : List (List Int32)} {sc : List ev_V} {nL : Nat} {ins : Instr} {ops : List Nat} {f f' : ev_F} (h : ev_stepA fds jk kb sc nL ins ops f = some f') : f.2.2.2.2.1 ≤ f'.2.2.2.2.1 ∧ f.2.2.2.2.2 ≤ f'.2.2.2.2.2 := by
  rcases ev_stepA_cases h with h | h
  · exact ev_step_mono h
  · exact ev_step2_mono h
theorem ev_clone_mono {f f' : ev_F} (h : ev_clone f = some f') : f.2.2.2.2.1 ≤ f'.2.2.2.2.1 ∧ f.2.2.2.2.2 ≤ f'.2.2.2.2.2 := by
  unfold ev_clone at h
  split at h
  · split at h
    · obtain ⟨-, rfl⟩ := ev_bif h
      exact ⟨Nat.le_succ _, Nat.le_add_right _ _⟩
    · cases h
  · cases h
theorem ev_acopy_mono {f f' : ev_F} (h : ev_acopy f = some f') : f'.2.2.2.2.1 = f.2.2.2.2.1 ∧ f'.2.2.2.2.2 = f.2.2.2.2.2 := by
  unfold ev_acopy at h
  split at h
  · split at h
    · obtain ⟨-, rfl⟩ := ev_bif h
      exact ⟨rfl, rfl⟩
    · cases h
  · cases h
set_option maxHeartbeats 4000000 in
theorem ev_body_mono {α : Type} {fin : ev_R → Option α} {run : Nat → List ev_V → List ev_C → Option ev_R} {fds : List (List ev_V)} {jk : Nat} {kb : List (List Int32)} {sc : List ev_V} {nL : Nat} {hh : List (Nat × Nat × Nat × Nat)} {code : List ev_I} {go : ev_F → Option α} {f : ev_F} {r : α} {M1 M2 : Nat}
    (hgo : ∀ f', go f' = some r → f'.2.2.2.2.1 ≤ M1 ∧ f'.2.2.2.2.2 ≤ M2) (hfin : ∀ res, fin res = some r → res.2.2.1 ≤ M1 ∧ res.2.2.2 ≤ M2) (h : ev_body fin run fds jk kb sc nL hh code go f = some r) : f.2.2.2.2.1 ≤ M1 ∧ f.2.2.2.2.2 ≤ M2 := by
  obtain ⟨pc, L, S, w, c, n⟩ := f
  unfold ev_body at h
  split at h
  · cases h
  · split at h
    · -- ireturn
      split at h
      · rename_i heq
        cases heq
        simp only [Bool.cond_eq_ite] at h
        split at h
        · exact hfin _ h
        · cases h
      · cases h
    · split at h
      · rename_i heq
        cases heq
        exact hfin _ h
      · cases h
    · -- lreturn
      split at h
      · rename_i heq
        cases heq
        simp only [Bool.cond_eq_ite] at h
        split at h
        · exact hfin _ h
        · cases h
      · cases h
    · -- areturn
      split at h
      · rename_i heq
        cases heq
        simp only [Bool.cond_eq_ite] at h
        split at h
        · exact hfin _ h
        · cases h
      · cases h
    · cases h
    · -- invokespecial
      split at h
      · split at h
        · rename_i heq
          cases heq
          simp only [Bool.cond_eq_ite] at h
          split at h
          · have z := hgo _ h
            exact z
          · cases h
        · cases h
      · dsimp only at h
        split at h
        · simp only [Bool.cond_eq_ite] at h
          split at h
          · split at h
            · have z := hgo _ h
              dsimp only at z ⊢
              omega
            · cases h
          · cases h
        · cases h
      · cases h
    · -- invokestatic
      split at h
      · split at h
        · rename_i f1 hf1
          have z := hgo _ h
          have z2 := ev_acopy_mono hf1
          dsimp only at z2 ⊢
          omega
        · cases h
      · dsimp only at h
        simp only [Bool.cond_eq_ite] at h
        split at h
        · split at h
          · have z := hgo _ h
            dsimp only at z ⊢
            omega
          · cases h
        · cases h
      · cases h
    · -- invokevirtual
      split at h
      · split at h
        · rename_i f1 hf1
          have z := hgo _ h
          have z2 := ev_clone_mono hf1
          dsimp only at z2 ⊢
          omega
        · cases h
      · dsimp only at h
        split at h
        · simp only [Bool.cond_eq_ite] at h
          split at h
          · split at h
            · have z := hgo _ h
              dsimp only at z ⊢
              omega
            · split at h
              · have z := hgo _ h
                dsimp only at z ⊢
                omega
              · split at h
                · have z := hfin _ h
                  dsimp only at z ⊢
                  omega
                · cases h
            · cases h
          · cases h
        · cases h
      · cases h
    · -- new
      split at h
      · dsimp only at h
        split at h
        · simp only [Bool.cond_eq_ite] at h
          split at h
          · have z := hfin _ h
            dsimp only at z ⊢
            omega
          · cases h
        · cases h
      · split at h
        · rename_i f1 hf1
          have z := hgo _ h
          have z2 := ev_stepA_mono hf1
          omega
        · cases h
    · split at h
      · rename_i f1 hf1
        have z := hgo _ h
        have z2 := ev_stepA_mono hf1
        omega
      · cases h
theorem ev_loop_mono {ret : Option FieldType} {run : Nat → List ev_V → List ev_C → Option ev_R} {fds : List (List ev_V)} {jk : Nat} {kb : List (List Int32)} {sc : List ev_V} {nL : Nat} {hh : List (Nat × Nat × Nat × Nat)} {code : List ev_I} {r : ev_R} : ∀ (fuel : Nat) (f : ev_F), ev_loop ret run fds jk kb sc nL hh code fuel f = some r → f.2.2.2.2.1 ≤ r.2.2.1 ∧ f.2.2.2.2.2 ≤ r.2.2.2
  | 0, f, h => by cases h
  | fuel + 1, f, h => by
    have h : ev_body (fun r => bif ev_rok ret hh r then some r else none) run fds jk kb sc nL hh code (ev_loop ret run fds jk kb sc nL hh code fuel) f = some r := h
    refine ev_body_mono (fun f' hf' => ev_loop_mono fuel f' hf') (fun res hres => ?_) h
    obtain ⟨-, rfl⟩ := ev_bif hres
    exact ⟨Nat.le_refl _, Nat.le_refl _⟩
theorem ev_to_mono {run : Nat → List ev_V → List ev_C → Option ev_R} {fds : List (List ev_V)} {jk : Nat} {kb : List (List Int32)} {sc : List ev_V} {nL : Nat} {hh : List (Nat × Nat × Nat × Nat)} {code : List ev_I} {stop : Nat} {r : ev_F} : ∀ (fuel : Nat) (f : ev_F), ev_to run fds jk kb sc nL hh code stop fuel f = some r → f.2.2.2.2.1 ≤ r.2.2.2.2.1 ∧ f.2.2.2.2.2 ≤ r.2.2.2.2.2
  | 0, f, h => by cases h
  | fuel + 1, f, h => by
    have h : (bif Nat.beq f.1 stop then some f else ev_body (fun _ => none) run fds jk kb sc nL hh code (ev_to run fds jk kb sc nL hh code stop fuel) f) = some r := h
    cases hb : Nat.beq f.1 stop with
    | true => rw [hb] at h; cases h; exact ⟨Nat.le_refl _, Nat.le_refl _⟩
    | false =>
      rw [hb] at h
      have h : ev_body (fun _ => none) run fds jk kb sc nL hh code (ev_to run fds jk kb sc nL hh code stop fuel) f = some r := h
      exact ev_body_mono (fin := fun _ => none) (fun f' hf' => ev_to_mono fuel f' hf') (fun res hres => nomatch hres) h
