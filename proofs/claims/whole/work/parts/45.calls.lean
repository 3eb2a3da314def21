/-! Calls, ends, throws; methods at a depth -/
def mu_wds : List mu_V → Nat
  | [] => 0
  | v :: t => (bif mu_c1 v then 1 else 2) + mu_wds t
theorem mu_wds_m : ∀ S : List mu_V, ev_wds (S.map mu_v) = mu_wds S
  | [] => rfl
  | v :: t => by
    show (bif ev_c1 (mu_v v) then 1 else 2) + ev_wds (t.map mu_v) = (bif mu_c1 v then 1 else 2) + mu_wds t
    rw [mu_v_c1, mu_wds_m t]
/-- from the arguments as and the heap H the method j comes to a result with Ψ -/
def mu_MT (run : Nat → List ev_V → List ev_C → Option ev_R) (j : Nat) (as : List mu_V) (H : mu_H) (Ψ : mu_R → Prop) : Prop :=
  ∀ w : List ev_C, mu_rep H w → ∃ (r : mu_R) (res : ev_R), run j (as.map mu_v) w = some res ∧ mu_res H 0 0 res r ∧ Ψ r
theorem mu_MT.imp {run : Nat → List ev_V → List ev_C → Option ev_R} {j : Nat} {as : List mu_V} {H : mu_H} {Φ Ψ : mu_R → Prop} (h : mu_MT run j as H Φ) (hi : ∀ r, Φ r → Ψ r) : mu_MT run j as H Ψ := by
  intro w hr
  obtain ⟨r, res, h1, h2, h3⟩ := h w hr
  exact ⟨r, res, h1, h2, hi r h3⟩
section MuCalls
variable {run : Nat → List ev_V → List ev_C → Option ev_R} {M : ev_M}
/-- a call: the method, its arguments, where it goes on, with what; what it asks -/
def mu_clf (M : ev_M) (f : mu_F) : Option (Nat × List mu_V × Nat × mu_L × List mu_V × mu_H × List Prop) :=
  match ev_find M.2.2.2 f.1 with
  | some (.invokevirtual _, mj :: na :: ci :: _) =>
    match f with
    | (pc, L, S, H) =>
      match S.drop na with
      | .inr (.inr o) :: S1 => bif Nat.beq (S.take na).reverse.length na && Nat.ble (mu_wds S1) 8 && (Nat.blt ci 100 || Nat.beq ci 999) then some (mj, .inr (.inr o) :: (S.take na).reverse, pc + 3, L, S1, H, [bif Nat.beq ci 999 then mu_str o else mu_is H o ci]) else none
      | _ => none
  | some (.invokestatic _, mj :: na :: _ :: _) =>
    match f with
    | (pc, L, S, H) => bif Nat.beq (S.take na).reverse.length na && Nat.ble (mu_wds (S.drop na)) 8 then some (mj, (S.take na).reverse, pc + 3, L, S.drop na, H, []) else none
  | some (.invokespecial _, _ :: mj :: na :: _) =>
    match f with
    | (pc, L, S, H) =>
      match S.drop na with
      | .inr (.inr o) :: S1 => bif Nat.beq (S.take na).reverse.length na && Nat.ble (mu_wds S1) 8 then some (mj, .inr (.inr o) :: (S.take na).reverse, pc + 3, L, S1, H, [o = some (mu_p o) ∧ mu_p o < mu_z H]) else none
      | _ => none
  | _ => none
theorem mu_take (na : Nat) (S : List mu_V) : ev_args na (S.map mu_v) = ((S.take na).reverse.map mu_v, (S.drop na).map mu_v) := by
  unfold ev_args
  rw [← List.map_take, ← List.map_drop, ← List.map_reverse]
theorem mu_opt (v : Option mu_V) : ev_opt (v.map mu_v) = v.toList.map mu_v := by cases v <;> rfl
/-- a call that returns -/
theorem mu_call {f : mu_F} {j pc1 : Nat} {as : List mu_V} {L : mu_L} {S1 : List mu_V} {H : mu_H} {C : List Prop} {Φ Ψ : mu_R → Prop} (h : mu_clf M f = some (j, as, pc1, L, S1, H, C)) (hC : mu_all C) (hT : mu_MT run j as H Ψ) (hk : ∀ r, Ψ r → ∃ v, r.1 = .inl v ∧ mu_HT run M (pc1, L, v.toList ++ S1, r.2) Φ) : mu_HT run M f Φ := by
  intro w c n hr
  have hH : f.2.2.2 = H ∧ ∃ res, run j (as.map mu_v) w = some res ∧ ∃ r, mu_res H 0 0 res r ∧ Ψ r ∧ ∀ (fuel : Nat) (v : Option mu_V) (r' : ev_R), r.1 = .inl v → ev_loop M.2.1 run ev_fds ev_jk ev_kb [] M.1 M.2.2.1 M.2.2.2 fuel (mu_e (pc1, L, v.toList ++ S1, r.2) res.2.1 (c + res.2.2.1) (n + res.2.2.2)) = some r' → ev_loop M.2.1 run ev_fds ev_jk ev_kb [] M.1 M.2.2.1 M.2.2.2 (fuel + 1) (mu_e f w c n) = some r' := by
    unfold mu_clf at h
    split at h
    · rename_i idx mj na ci rest hfind
      obtain ⟨pc, L0, S, H0⟩ := f
      dsimp only at h hfind hr
      split at h
      · rename_i o S2 hdrop
        obtain ⟨h1, h2⟩ := mu_some h
        cases h2
        refine ⟨rfl, ?_⟩
        obtain ⟨r, res, g1, g2, g3⟩ := hT w hr
        refine ⟨res, g1, r, g2, g3, fun fuel v r' hv hgo => ?_⟩
        simp only [Bool.and_eq_true] at h1
        have hC : (bif Nat.beq ci 999 then mu_str o else mu_is H o ci) := hC
        show ev_body (fun r => bif ev_rok M.2.1 M.2.2.1 r then some r else none) run ev_fds ev_jk ev_kb [] M.1 M.2.2.1 M.2.2.2 (ev_loop M.2.1 run ev_fds ev_jk ev_kb [] M.1 M.2.2.1 M.2.2.2 fuel) (pc, mu_m L, S.map mu_v, w, c, n) = some r'
        unfold ev_body
        rw [hfind]
        dsimp only
        rw [mu_take, hdrop]
        dsimp only [List.map]
        have hl : Nat.beq ((S.take na).reverse.map mu_v).length na = true := by rw [List.length_map]; exact h1.1.1
        have hwd : Nat.ble (ev_wds (S1.map mu_v)) 8 = true := by rw [mu_wds_m]; exact h1.1.2
        have hrc : ev_body.ev_recv ev_jk w ci (mu_v (.inr (.inr o))) = true := by
          cases h9 : Nat.beq ci 999 with
          | true =>
            rw [h9] at hC
            obtain ⟨jj, hj, ej, ev⟩ := mu_str_v (show mu_str o from hC)
            rw [ev]
            show (Nat.beq ci 999 && Nat.blt jj ev_jk) = true
            rw [h9, show Nat.blt jj ev_jk = true from Nat.ble_eq_true_of_le hj]
            rfl
          | false =>
            rw [h9] at hC h1
            have hci : ci + 1 ≤ 100 := by
              have z := h1.2
              rw [Bool.or_false] at z
              exact Nat.le_of_ble_eq_true z
            have hC : mu_is H o ci := hC
            obtain ⟨x, x1, x2, x3⟩ := mu_at hr hC
            rw [x3]
            unfold ev_body.ev_recv
            dsimp only
            rw [x1]
            rcases x with (⟨cj, fs⟩ | ⟨t, N, d, wr⟩)
            · have e1 : mu_k H (mu_p o) = cj := x2.1
              have e2 : mu_k H (mu_p o) = ci := hC.2.2
              show (Nat.beq ci cj || _) = true
              rw [← e1, ← e2, Nat.beq_refl]
              rfl
            · have e1 : mu_k H (mu_p o) = 100 + t := x2.1
              have e2 : mu_k H (mu_p o) = ci := hC.2.2
              omega
        rw [hl, hwd, hrc]
        have g1 : run j (mu_v (.inr (.inr o)) :: (S.take na).reverse.map mu_v) w = some res := g1
        obtain ⟨res1, res2, res3, res4⟩ := res
        obtain ⟨e1, -⟩ := g2
        have e1 : res1 = mu_out r := e1
        unfold mu_out at e1
        rw [hv] at e1
        subst e1
        rw [g1]
        show ev_loop M.2.1 run ev_fds ev_jk ev_kb [] M.1 M.2.2.1 M.2.2.2 fuel (pc + 3, mu_m L, ev_opt (v.map mu_v) ++ S1.map mu_v, res2, c + res3, n + res4) = some r'
        rw [mu_opt, ← List.map_append]
        exact hgo
      · cases h
    · rename_i idx mj na q rest hfind
      obtain ⟨pc, L0, S, H0⟩ := f
      dsimp only at h hfind hr
      obtain ⟨h1, h2⟩ := mu_some h
      cases h2
      refine ⟨rfl, ?_⟩
      obtain ⟨r, res, g1, g2, g3⟩ := hT w hr
      refine ⟨res, g1, r, g2, g3, fun fuel v r' hv hgo => ?_⟩
      simp only [Bool.and_eq_true] at h1
      show ev_body (fun r => bif ev_rok M.2.1 M.2.2.1 r then some r else none) run ev_fds ev_jk ev_kb [] M.1 M.2.2.1 M.2.2.2 (ev_loop M.2.1 run ev_fds ev_jk ev_kb [] M.1 M.2.2.1 M.2.2.2 fuel) (pc, mu_m L, S.map mu_v, w, c, n) = some r'
      unfold ev_body
      rw [hfind]
      dsimp only
      rw [mu_take]
      dsimp only
      have hl : Nat.beq ((S.take na).reverse.map mu_v).length na = true := by rw [List.length_map]; exact h1.1
      have hwd : Nat.ble (ev_wds ((S.drop na).map mu_v)) 8 = true := by rw [mu_wds_m]; exact h1.2
      rw [hl, hwd]
      obtain ⟨res1, res2, res3, res4⟩ := res
      obtain ⟨e1, -⟩ := g2
      have e1 : res1 = mu_out r := e1
      unfold mu_out at e1
      rw [hv] at e1
      subst e1
      rw [g1]
      show ev_loop M.2.1 run ev_fds ev_jk ev_kb [] M.1 M.2.2.1 M.2.2.2 fuel (pc + 3, mu_m L, ev_opt (v.map mu_v) ++ (S.drop na).map mu_v, res2, c + res3, n + res4) = some r'
      rw [mu_opt, ← List.map_append]
      exact hgo
    · rename_i idx kd mj na rest hfind
      obtain ⟨pc, L0, S, H0⟩ := f
      dsimp only at h hfind hr
      split at h
      · rename_i o S2 hdrop
        obtain ⟨h1, h2⟩ := mu_some h
        cases h2
        refine ⟨rfl, ?_⟩
        obtain ⟨r, res, g1, g2, g3⟩ := hT w hr
        refine ⟨res, g1, r, g2, g3, fun fuel v r' hv hgo => ?_⟩
        simp only [Bool.and_eq_true] at h1
        have hC : o = some (mu_p o) ∧ mu_p o < mu_z H := hC
        have x3 : mu_v (.inr (.inr o)) = .inl (.ref (mu_p o)) := by
          have := hr.2.1.1
          rw [hC.1]
          exact mu_v_ref (by have := hC.2; omega)
        show ev_body (fun r => bif ev_rok M.2.1 M.2.2.1 r then some r else none) run ev_fds ev_jk ev_kb [] M.1 M.2.2.1 M.2.2.2 (ev_loop M.2.1 run ev_fds ev_jk ev_kb [] M.1 M.2.2.1 M.2.2.2 fuel) (pc, mu_m L, S.map mu_v, w, c, n) = some r'
        unfold ev_body
        rw [hfind]
        dsimp only
        rw [mu_take, hdrop]
        dsimp only [List.map]
        rw [x3]
        dsimp only
        have hl : Nat.beq ((S.take na).reverse.map mu_v).length na = true := by rw [List.length_map]; exact h1.1
        have hwd : Nat.ble (ev_wds (S1.map mu_v)) 8 = true := by rw [mu_wds_m]; exact h1.2
        rw [hl, hwd]
        have g1 : run j (mu_v (.inr (.inr o)) :: (S.take na).reverse.map mu_v) w = some res := g1
        rw [x3] at g1
        obtain ⟨res1, res2, res3, res4⟩ := res
        obtain ⟨e1, -⟩ := g2
        have e1 : res1 = mu_out r := e1
        unfold mu_out at e1
        rw [hv] at e1
        subst e1
        rw [g1]
        show ev_loop M.2.1 run ev_fds ev_jk ev_kb [] M.1 M.2.2.1 M.2.2.2 fuel (pc + 3, mu_m L, ev_opt (v.map mu_v) ++ S1.map mu_v, res2, c + res3, n + res4) = some r'
        rw [mu_opt, ← List.map_append]
        exact hgo
      · cases h
    · cases h
  obtain ⟨hH, res, g1, r, g2, g3, hgo⟩ := hH
  obtain ⟨v, hv, hk⟩ := hk r g3
  obtain ⟨q1, q2, q3, q4, q5, q6⟩ := g2
  obtain ⟨r', fuel, res', b1, b2, b3⟩ := hk res.2.1 (c + res.2.2.1) (n + res.2.2.2) q2
  refine ⟨r', fuel + 1, res', hgo fuel v res' hv b1, ?_, b3⟩
  rw [hH]
  have b2 : mu_res r.2 (c + res.2.2.1) (n + res.2.2.2) res' r' := b2
  rw [q3, q4] at b2
  refine mu_res_from q5 q6 ?_
  rw [Nat.zero_add, Nat.zero_add] at b2
  exact b2
/-- an end: the value -/
def mu_rtf (M : ev_M) (f : mu_F) : Option (Option mu_V) :=
  match ev_find M.2.2.2 f.1 with
  | some (.ireturn, _) => match f with
    | (_, _, [.inl x], _) => some (some (.inl x))
    | _ => none
  | some (.lreturn, _) => match f with
    | (_, _, [.inr (.inl x)], _) => some (some (.inr (.inl x)))
    | _ => none
  | some (.areturn, _) => match f with
    | (_, _, [.inr (.inr o)], _) => some (some (.inr (.inr o)))
    | _ => none
  | some (.return_, _) => match f with
    | (_, _, [], _) => some none
    | _ => none
  | _ => none
/-- does it fit the method's type: of booleans and bytes it is asked -/
def mu_fit (ty : Option FieldType) (v : Option mu_V) : Prop :=
  match ty, v with
  | none, none => True
  | some .int, some (.inl _) => True
  | some .long, some (.inr (.inl _)) => True
  | some (.object _), some (.inr (.inr _)) => True
  | some (.array _), some (.inr (.inr _)) => True
  | some .boolean, some (.inl x) => x = 0 ∨ x = 1
  | some .byte, some (.inl x) => narrow .byte (.int x) = .int x
  | some .char, some (.inl x) => narrow .char (.int x) = .int x
  | some .short, some (.inl x) => narrow .short (.int x) = .int x
  | _, _ => False
theorem mu_fit_ok {ty : Option FieldType} {hh : List (Nat × Nat × Nat × Nat)} {v : Option mu_V} {w : List ev_C} {c n : Nat} (h : mu_fit ty v) : ev_rok ty hh (.inl (v.map mu_v), w, c, n) = true := by
  cases ty with
  | none =>
    cases v with
    | none => rfl
    | some v => exact h.elim
  | some ty =>
    cases v with
    | none => cases ty <;> exact h.elim
    | some v =>
      rcases v with x | x | o
      · cases ty with
        | int => rfl
        | boolean =>
          have h : x = 0 ∨ x = 1 := h
          show decide (narrow .boolean (.int x) = .int x) = true
          rcases h with rfl | rfl <;> decide +kernel
        | _ => first | exact decide_eq_true h | exact h.elim
      · cases ty <;> first | rfl | exact h.elim
      · cases ty <;> first | exact mu_v_isR o | exact h.elim
theorem mu_ret {f : mu_F} {v : Option mu_V} {Φ : mu_R → Prop} (h : mu_rtf M f = some v) (hf : mu_fit M.2.1 v) (hΦ : Φ (.inl v, f.2.2.2)) : mu_HT run M f Φ := by
  intro w c n hr
  have hok := mu_fit_ok (hh := M.2.2.1) (w := w) (c := c) (n := n) hf
  refine ⟨(.inl v, f.2.2.2), 1, (.inl (v.map mu_v), w, c, n), ?_, ⟨rfl, hr, by simp, by simp, Nat.le_refl _, Nat.le_refl _⟩, hΦ⟩
  show ev_body (fun r => bif ev_rok M.2.1 M.2.2.1 r then some r else none) run ev_fds ev_jk ev_kb [] M.1 M.2.2.1 M.2.2.2 (ev_loop M.2.1 run ev_fds ev_jk ev_kb [] M.1 M.2.2.1 M.2.2.2 0) (mu_e f w c n) = _
  unfold mu_rtf at h
  split at h
  · rename_i ops hfind
    split at h
    · rename_i pc L x H
      cases h
      unfold ev_body
      have hf' : ev_find M.2.2.2 (mu_e (pc, L, [.inl x], H) w c n).1 = some (.ireturn, ops) := hfind
      rw [hf']
      have key : ∀ z : ev_R, ev_rok M.2.1 M.2.2.1 z = true → (bif ev_rok M.2.1 M.2.2.1 z then some z else none) = some z := fun z hz => by rw [hz]; rfl
      exact key _ hok
    · cases h
  · rename_i ops hfind
    split at h
    · rename_i pc L x H
      cases h
      unfold ev_body
      have hf' : ev_find M.2.2.2 (mu_e (pc, L, [.inr (.inl x)], H) w c n).1 = some (.lreturn, ops) := hfind
      rw [hf']
      have key : ∀ z : ev_R, ev_rok M.2.1 M.2.2.1 z = true → (bif ev_rok M.2.1 M.2.2.1 z then some z else none) = some z := fun z hz => by rw [hz]; rfl
      exact key _ hok
    · cases h
  · rename_i ops hfind
    split at h
    · rename_i pc L o H
      cases h
      unfold ev_body
      have hf' : ev_find M.2.2.2 (mu_e (pc, L, [.inr (.inr o)], H) w c n).1 = some (.areturn, ops) := hfind
      rw [hf']
      show (bif ev_isR (mu_v (.inr (.inr o))) then (bif ev_rok M.2.1 M.2.2.1 _ then some _ else none) else none) = _
      rw [mu_v_isR]
      have key : ∀ z : ev_R, ev_rok M.2.1 M.2.2.1 z = true → (bif ev_rok M.2.1 M.2.2.1 z then some z else none) = some z := fun z hz => by rw [hz]; rfl
      exact key _ hok
    · cases h
  · rename_i ops hfind
    split at h
    · rename_i pc L H
      cases h
      unfold ev_body
      have hf' : ev_find M.2.2.2 (mu_e (pc, L, [], H) w c n).1 = some (.return_, ops) := hfind
      rw [hf']
      have key : ∀ z : ev_R, ev_rok M.2.1 M.2.2.1 z = true → (bif ev_rok M.2.1 M.2.2.1 z then some z else none) = some z := fun z hz => by rw [hz]; rfl
      exact key _ hok
    · cases h
  · cases h
end MuCalls
