/-! Contracts by the kind of the answer; calls of such methods; loops -/
section MuTyped
variable {run : Nat → List ev_V → List ev_C → Option ev_R} {M : ev_M}
def mu_TI (run : Nat → List ev_V → List ev_C → Option ev_R) (j : Nat) (as : List mu_V) (H : mu_H) (Q : Int32 → mu_H → Prop) : Prop := mu_MT run j as H (fun r => ∃ x H1, r = (.inl (some (.inl x)), H1) ∧ Q x H1)
def mu_TL (run : Nat → List ev_V → List ev_C → Option ev_R) (j : Nat) (as : List mu_V) (H : mu_H) (Q : Int64 → mu_H → Prop) : Prop := mu_MT run j as H (fun r => ∃ x H1, r = (.inl (some (.inr (.inl x))), H1) ∧ Q x H1)
def mu_TA (run : Nat → List ev_V → List ev_C → Option ev_R) (j : Nat) (as : List mu_V) (H : mu_H) (Q : Option Nat → mu_H → Prop) : Prop := mu_MT run j as H (fun r => ∃ x H1, r = (.inl (some (.inr (.inr x))), H1) ∧ Q x H1)
def mu_TV (run : Nat → List ev_V → List ev_C → Option ev_R) (j : Nat) (as : List mu_V) (H : mu_H) (Q : mu_H → Prop) : Prop := mu_MT run j as H (fun r => ∃ H1, r = (.inl none, H1) ∧ Q H1)
theorem mu_cI {f : mu_F} {j pc1 : Nat} {as : List mu_V} {L : mu_L} {S1 : List mu_V} {H : mu_H} {C : List Prop} {Φ : mu_R → Prop} {Q : Int32 → mu_H → Prop} (h : mu_clf M f = some (j, as, pc1, L, S1, H, C)) (hC : mu_all C) (hT : mu_TI run j as H Q) (hk : ∀ x H1, Q x H1 → mu_HT run M (pc1, L, .inl x :: S1, H1) Φ) : mu_HT run M f Φ :=
  mu_call h hC hT (fun r hr => by
    obtain ⟨x, H1, rfl, hq⟩ := hr
    exact ⟨some (.inl x), rfl, hk x H1 hq⟩)
theorem mu_cL {f : mu_F} {j pc1 : Nat} {as : List mu_V} {L : mu_L} {S1 : List mu_V} {H : mu_H} {C : List Prop} {Φ : mu_R → Prop} {Q : Int64 → mu_H → Prop} (h : mu_clf M f = some (j, as, pc1, L, S1, H, C)) (hC : mu_all C) (hT : mu_TL run j as H Q) (hk : ∀ x H1, Q x H1 → mu_HT run M (pc1, L, .inr (.inl x) :: S1, H1) Φ) : mu_HT run M f Φ :=
  mu_call h hC hT (fun r hr => by
    obtain ⟨x, H1, rfl, hq⟩ := hr
    exact ⟨some (.inr (.inl x)), rfl, hk x H1 hq⟩)
theorem mu_cA {f : mu_F} {j pc1 : Nat} {as : List mu_V} {L : mu_L} {S1 : List mu_V} {H : mu_H} {C : List Prop} {Φ : mu_R → Prop} {Q : Option Nat → mu_H → Prop} (h : mu_clf M f = some (j, as, pc1, L, S1, H, C)) (hC : mu_all C) (hT : mu_TA run j as H Q) (hk : ∀ x H1, Q x H1 → mu_HT run M (pc1, L, .inr (.inr x) :: S1, H1) Φ) : mu_HT run M f Φ :=
  mu_call h hC hT (fun r hr => by
    obtain ⟨x, H1, rfl, hq⟩ := hr
    exact ⟨some (.inr (.inr x)), rfl, hk x H1 hq⟩)
theorem mu_cV {f : mu_F} {j pc1 : Nat} {as : List mu_V} {L : mu_L} {S1 : List mu_V} {H : mu_H} {C : List Prop} {Φ : mu_R → Prop} {Q : mu_H → Prop} (h : mu_clf M f = some (j, as, pc1, L, S1, H, C)) (hC : mu_all C) (hT : mu_TV run j as H Q) (hk : ∀ H1, Q H1 → mu_HT run M (pc1, L, S1, H1) Φ) : mu_HT run M f Φ :=
  mu_call h hC hT (fun r hr => by
    obtain ⟨H1, rfl, hq⟩ := hr
    exact ⟨none, rfl, hk H1 hq⟩)
theorem mu_TI.imp {j : Nat} {as : List mu_V} {H : mu_H} {Q Q' : Int32 → mu_H → Prop} (h : mu_TI run j as H Q) (hi : ∀ x H1, Q x H1 → Q' x H1) : mu_TI run j as H Q' :=
  mu_MT.imp h (fun r hr => by
    obtain ⟨x, H1, e, hq⟩ := hr
    exact ⟨x, H1, e, hi x H1 hq⟩)
theorem mu_TV.imp {j : Nat} {as : List mu_V} {H : mu_H} {Q Q' : mu_H → Prop} (h : mu_TV run j as H Q) (hi : ∀ H1, Q H1 → Q' H1) : mu_TV run j as H Q' :=
  mu_MT.imp h (fun r hr => by
    obtain ⟨H1, e, hq⟩ := hr
    exact ⟨H1, e, hi H1 hq⟩)
theorem mu_body_run {α : Type} {fin : ev_R → Option α} {run run' : Nat → List ev_V → List ev_C → Option ev_R} {fds : List (List ev_V)} {jk : Nat} {kb : List (List Int32)} {sc : List ev_V} {nL : Nat} {hh : List (Nat × Nat × Nat × Nat)} {code : List ev_I} {go : ev_F → Option α} {f : ev_F} {r : α} (hrun : ∀ mj as w res, run mj as w = some res → run' mj as w = some res) (h : ev_body fin run fds jk kb sc nL hh code go f = some r) : ev_body fin run' fds jk kb sc nL hh code go f = some r := by
  obtain ⟨pc, L, S, w, c, n⟩ := f
  unfold ev_body at h ⊢
  cases hf : ev_find code pc with
  | none => simp only [hf] at h; cases h
  | some io =>
    obtain ⟨ins, ops⟩ := io
    simp only [hf] at h ⊢
    cases ins
    case invokespecial idx =>
      match ops, h with
      | [], h => exact h
      | [q], h => exact h
      | [q, mj], h => exact h
      | q :: mj :: na :: rest, h =>
        dsimp only at h ⊢
        generalize hA : ev_args na S = A at h ⊢
        obtain ⟨as, T⟩ := A
        match T, h with
        | .inl (.ref z) :: S1, h =>
          dsimp only at h ⊢
          cases hb : (Nat.beq as.length na && Nat.ble (ev_wds S1) 8) with
          | false => rw [hb] at h; cases h
          | true =>
            rw [hb] at h
            dsimp only [cond_true] at h ⊢
            cases hR : run mj (.inl (.ref z) :: as) w with
            | none => rw [hR] at h; cases h
            | some res => rw [hrun _ _ _ _ hR]; rw [hR] at h; exact h
        | [], h => cases h
        | .inl .null :: _, h => cases h
        | .inl (.int _) :: _, h => cases h
        | .inl (.long _) :: _, h => cases h
        | .inl (.float _) :: _, h => cases h
        | .inl (.double _) :: _, h => cases h
        | .inl (.retAddr _) :: _, h => cases h
        | .inr _ :: _, h => cases h
    case invokestatic idx =>
      match ops, h with
      | [], h => exact h
      | [q], h => exact h
      | mj :: na :: rest, h =>
        dsimp only at h ⊢
        generalize hA : ev_args na S = A at h ⊢
        obtain ⟨as, S1⟩ := A
        dsimp only at h ⊢
        cases hb : (Nat.beq as.length na && Nat.ble (ev_wds S1) 8) with
        | false => rw [hb] at h; cases h
        | true =>
          rw [hb] at h
          dsimp only [cond_true] at h ⊢
          cases hR : run mj as w with
          | none => rw [hR] at h; cases h
          | some res => rw [hrun _ _ _ _ hR]; rw [hR] at h; exact h
    case invokevirtual idx =>
      match ops, h with
      | [], h => exact h
      | [_], h => exact h
      | [_, _], h => exact h
      | mj :: na :: ci :: rest, h =>
        dsimp only at h ⊢
        generalize hA : ev_args na S = A at h ⊢
        obtain ⟨as, T⟩ := A
        match T, h with
        | [], h => cases h
        | o :: S1, h =>
          dsimp only at h ⊢
          cases hb : (Nat.beq as.length na && Nat.ble (ev_wds S1) 8 && ev_body.ev_recv jk w ci o) with
          | false => rw [hb] at h; cases h
          | true =>
            rw [hb] at h
            dsimp only [cond_true] at h ⊢
            cases hR : run mj (o :: as) w with
            | none => rw [hR] at h; cases h
            | some res => rw [hrun _ _ _ _ hR]; rw [hR] at h; exact h
    all_goals exact h
theorem mu_loop_run {run run' : Nat → List ev_V → List ev_C → Option ev_R} {fds : List (List ev_V)} {jk : Nat} {kb : List (List Int32)} {sc : List ev_V} {nL : Nat} {hh : List (Nat × Nat × Nat × Nat)} {code : List ev_I} {ret : Option FieldType} {r : ev_R} (hrun : ∀ mj as w res, run mj as w = some res → run' mj as w = some res) : ∀ (k : Nat) (f : ev_F), ev_loop ret run fds jk kb sc nL hh code k f = some r → ev_loop ret run' fds jk kb sc nL hh code k f = some r
  | 0, f, h => by cases h
  | k + 1, f, h => by
    have h : ev_body (fun r => bif ev_rok ret hh r then some r else none) run fds jk kb sc nL hh code (ev_loop ret run fds jk kb sc nL hh code k) f = some r := h
    exact mu_body_run hrun (ev_body_go (fun f' hf' => mu_loop_run hrun k f' hf') h)
/-- a method at a greater depth -/
theorem mu_D_up : ∀ (d mi : Nat) (as : List ev_V) (w : List ev_C) (r : ev_R), mu_D d mi as w = some r → mu_D (d + 1) mi as w = some r
  | 0, mi, as, w, r, h => by cases h
  | d + 1, mi, as, w, r, h => by
    obtain ⟨M, fuel, h1, h2, h3⟩ := mu_D_to h
    refine mu_D_of ⟨M, fuel, h1, h2, ?_⟩
    exact mu_loop_run (fun mj as' w' r' => mu_D_up d mj as' w' r') fuel _ h3
theorem mu_D_le {d d' mi : Nat} {as : List ev_V} {w : List ev_C} {r : ev_R} (hd : d ≤ d') (h : mu_D d mi as w = some r) : mu_D d' mi as w = some r := by
  obtain ⟨k, rfl⟩ : ∃ k, d' = d + k := ⟨d' - d, by omega⟩
  induction k with
  | zero => exact h
  | succ k ih => exact mu_D_up (d + k) mi as w r (ih (by omega))
theorem mu_MT.up {d d' j : Nat} {as : List mu_V} {H : mu_H} {Ψ : mu_R → Prop} (hd : d ≤ d') (h : mu_MT (mu_D d) j as H Ψ) : mu_MT (mu_D d') j as H Ψ := by
  intro w hr
  obtain ⟨r, res, h1, h2, h3⟩ := h w hr
  exact ⟨r, res, mu_D_le hd h1, h2, h3⟩
theorem mu_TI.up {d d' j : Nat} {as : List mu_V} {H : mu_H} {Q : Int32 → mu_H → Prop} (hd : d ≤ d') (h : mu_TI (mu_D d) j as H Q) : mu_TI (mu_D d') j as H Q := mu_MT.up hd h
theorem mu_TV.up {d d' j : Nat} {as : List mu_V} {H : mu_H} {Q : mu_H → Prop} (hd : d ≤ d') (h : mu_TV (mu_D d) j as H Q) : mu_TV (mu_D d') j as H Q := mu_MT.up hd h
end MuTyped
