/-! Throws, switches, new objects, copies; every method at a depth -/
section MuMore
variable {run : Nat → List ev_V → List ev_C → Option ev_R} {M : ev_M}
/-- one evaluator's step of any kind that goes on -/
theorem mu_ev1 {f f1 : mu_F} {Φ : mu_R → Prop} (h : ∀ (w : List ev_C) (c n : Nat), mu_rep f.2.2.2 w → ∃ w1, mu_rep f1.2.2.2 w1 ∧ mu_c f.2.2.2 ≤ mu_c f1.2.2.2 ∧ mu_s f.2.2.2 ≤ mu_s f1.2.2.2 ∧ ∀ (go : ev_F → Option ev_R), ev_body (fun r => bif ev_rok M.2.1 M.2.2.1 r then some r else none) run ev_fds ev_jk ev_kb [] M.1 M.2.2.1 M.2.2.2 go (mu_e f w c n) = go (mu_e f1 w1 (c + (mu_c f1.2.2.2 - mu_c f.2.2.2)) (n + (mu_s f1.2.2.2 - mu_s f.2.2.2)))) (hG : mu_HT run M f1 Φ) : mu_HT run M f Φ := by
  intro w c n hr
  obtain ⟨w1, a1, a2, a3, a4⟩ := h w c n hr
  obtain ⟨r, fuel, res, b1, b2, b3⟩ := hG w1 _ _ a1
  refine ⟨r, fuel + 1, res, ?_, mu_res_from a2 a3 b2, b3⟩
  show ev_body (fun r => bif ev_rok M.2.1 M.2.2.1 r then some r else none) run ev_fds ev_jk ev_kb [] M.1 M.2.2.1 M.2.2.2 (ev_loop M.2.1 run ev_fds ev_jk ev_kb [] M.1 M.2.2.1 M.2.2.2 fuel) (mu_e f w c n) = some res
  rw [a4]
  exact b1
/-- what a new object's field holds -/
def mu_dfl : Nat → ev_V
  | 2 => .inl .null
  | 3 => .inl (.long 0)
  | _ => .inl (.int 0)
theorem mu_fds : ∀ ci, ci < 21 → ev_fds[ci]? = some ((mu_ft ci).map mu_dfl) := by
  intro ci h
  match ci, h with
  | 0, _ => exact rfl
  | 1, _ => exact rfl
  | 2, _ => exact rfl
  | 3, _ => exact rfl
  | 4, _ => exact rfl
  | 5, _ => exact rfl
  | 6, _ => exact rfl
  | 7, _ => exact rfl
  | 8, _ => exact rfl
  | 9, _ => exact rfl
  | 10, _ => exact rfl
  | 11, _ => exact rfl
  | 12, _ => exact rfl
  | 13, _ => exact rfl
  | 14, _ => exact rfl
  | 15, _ => exact rfl
  | 16, _ => exact rfl
  | 17, _ => exact rfl
  | 18, _ => exact rfl
  | 19, _ => exact rfl
  | 20, _ => exact rfl
  | k + 21, h => omega
theorem mu_fs_new (H : mu_H) (kd len sl : Nat) : ∀ (j : Nat) (ts : List Nat), mu_fs (mu_nw H kd len sl) (mu_z H) j ts = ts.map mu_dfl
  | _, [] => rfl
  | j, t :: ts => by
    show mu_v (mu_f (mu_nw H kd len sl) (mu_z H) j t) :: mu_fs (mu_nw H kd len sl) (mu_z H) (j + 1) ts = mu_dfl t :: ts.map mu_dfl
    rw [mu_fs_new H kd len sl (j + 1) ts]
    congr 1
    by_cases h2 : t = 2
    · subst h2
      show mu_v (.inr (.inr (mu_r (mu_nw H kd len sl) (mu_z H) j))) = _
      rw [mu_r_nw, if_pos rfl]; rfl
    · by_cases h3 : t = 3
      · subst h3
        show mu_v (.inr (.inl (mu_l (mu_nw H kd len sl) (mu_z H) j))) = _
        rw [mu_l_nw, if_pos rfl]; rfl
      · have e1 : mu_f (mu_nw H kd len sl) (mu_z H) j t = .inl (mu_i (mu_nw H kd len sl) (mu_z H) j) := by
          unfold mu_f
          split <;> first | contradiction | rfl
        have e2 : mu_dfl t = .inl (.int 0) := by
          unfold mu_dfl
          split <;> first | contradiction | rfl
        rw [e1, e2, mu_i_nw, if_pos rfl]; rfl
/-- a new object -/
theorem mu_newo {pc idx a b d ci : Nat} {L : mu_L} {S : List mu_V} {H : mu_H} {Φ : mu_R → Prop} (hf : ev_find M.2.2.2 pc = some (.new idx, [a, b, d, ci])) (hci : ci < 21) (hz : mu_z H + 1 ≤ 1000000) (h : mu_HT run M (pc + 3, L, .inr (.inr (some (mu_z H))) :: S, mu_nw H ci 0 (mu_ft ci).length) Φ) : mu_HT run M (pc, L, S, H) Φ := by
  refine mu_ev1 (fun w c n hr => ?_) h
  refine ⟨w ++ [.inl (ci, (mu_ft ci).map mu_dfl)], mu_rep_push (x := .inl (ci, (mu_ft ci).map mu_dfl)) hr hz ⟨by rw [mu_k_nw, if_pos rfl], by omega, (mu_fs_new H ci 0 _ 0 _).symm⟩, Nat.le_succ _, Nat.le_add_right _ _, fun go => ?_⟩
  unfold ev_body
  have hf' : ev_find M.2.2.2 (mu_e (pc, L, S, H) w c n).1 = some (.new idx, [a, b, d, ci]) := hf
  rw [hf']
  have hst : ev_step ev_fds ev_jk ev_kb [] M.1 (.new idx) [a, b, d, ci] (mu_e (pc, L, S, H) w c n) = some (pc + 3, mu_m L, Sum.inl (Value.ref w.length) :: S.map mu_v, w ++ [.inl (ci, (mu_ft ci).map mu_dfl)], c + 1, n + ((mu_ft ci).map mu_dfl).length) := by
    show (match ev_fds[ci]? with | some fs => some (pc + 3, mu_m L, Sum.inl (Value.ref w.length) :: S.map mu_v, w ++ [(Sum.inl (ci, fs) : ev_C)], c + 1, n + fs.length) | none => none) = _
    rw [mu_fds ci hci]
  show (match ev_stepA ev_fds ev_jk ev_kb [] M.1 (.new idx) [a, b, d, ci] (mu_e (pc, L, S, H) w c n) with | some f1 => go f1 | none => none) = _
  rw [ev_stepA_of hst]
  show go (pc + 3, mu_m L, Sum.inl (Value.ref w.length) :: S.map mu_v, w ++ [.inl (ci, (mu_ft ci).map mu_dfl)], c + 1, n + ((mu_ft ci).map mu_dfl).length) = go (pc + 3, mu_m L, mu_v (.inr (.inr (some (mu_z H)))) :: S.map mu_v, w ++ [.inl (ci, (mu_ft ci).map mu_dfl)], c + (mu_c H + 1 - mu_c H), n + (mu_s H + (mu_ft ci).length - mu_s H))
  rw [mu_v_ref (by omega), hr.1, Nat.add_sub_cancel_left, Nat.add_sub_cancel_left, List.length_map]
/-- Object's constructor -/
theorem mu_obj {pc idx a : Nat} {L : mu_L} {S : List mu_V} {o : Option Nat} {H : mu_H} {Φ : mu_R → Prop} (hf : ev_find M.2.2.2 pc = some (.invokespecial idx, [a])) (ho : o = some (mu_p o) ∧ mu_p o < mu_z H) (hS : mu_wds S ≤ 8) (h : mu_HT run M (pc + 3, L, S, H) Φ) : mu_HT run M (pc, L, .inr (.inr o) :: S, H) Φ := by
  refine mu_ev1 (fun w c n hr => ?_) h
  refine ⟨w, hr, Nat.le_refl _, Nat.le_refl _, fun go => ?_⟩
  unfold ev_body
  have hf' : ev_find M.2.2.2 (mu_e (pc, L, .inr (.inr o) :: S, H) w c n).1 = some (.invokespecial idx, [a]) := hf
  rw [hf']
  have x3 : mu_v (.inr (.inr o)) = .inl (.ref (mu_p o)) := by
    have := hr.2.1
    have hr2 : mu_z H ≤ 1000000 := this.1
    rw [ho.1]
    exact mu_v_ref (by have := ho.2; omega)
  show (match (pc, mu_m L, mu_v (.inr (.inr o)) :: S.map mu_v, w, c, n) with | (pc, L, .inl (.ref _) :: S, w, c, n) => (bif Nat.ble (ev_wds S) 8 then go (pc + 3, L, S, w, c, n) else none) | _ => none) = _
  rw [x3]
  show (bif Nat.ble (ev_wds (S.map mu_v)) 8 then go (pc + 3, mu_m L, S.map mu_v, w, c, n) else none) = go (pc + 3, mu_m L, S.map mu_v, w, c + (mu_c H - mu_c H), n + (mu_s H - mu_s H))
  rw [mu_wds_m, Nat.ble_eq_true_of_le hS, Nat.sub_self, Nat.sub_self]
  rfl
/-- a switch over a run of numbers -/
theorem mu_sw {pc d0 : Nat} {dflt lo hi : Int} {offs : Array Int} {ts : List Nat} {L : mu_L} {S : List mu_V} {x : Int32} {H : mu_H} {Φ : mu_R → Prop} (hf : ev_find M.2.2.2 pc = some (.tableswitch dflt lo hi offs, d0 :: ts)) (hl : hi - lo < ts.length) (h1 : x.toInt < lo ∨ hi < x.toInt → mu_HT run M (d0, L, S, H) Φ) (h2 : ∀ (i q : Nat), ts[i]? = some q → x.toInt = lo + i → mu_HT run M (q, L, S, H) Φ) : mu_HT run M (pc, L, .inl x :: S, H) Φ := by
  have key : ∀ q : Nat, (∀ (w : List ev_C) (c n : Nat), ev_step ev_fds ev_jk ev_kb [] M.1 (.tableswitch dflt lo hi offs) (d0 :: ts) (mu_e (pc, L, .inl x :: S, H) w c n) = some (mu_e (q, L, S, H) w c n)) → mu_HT run M (q, L, S, H) Φ → mu_HT run M (pc, L, .inl x :: S, H) Φ := by
    intro q hq h
    refine mu_ev1 (fun w c n hr => ?_) h
    refine ⟨w, hr, Nat.le_refl _, Nat.le_refl _, fun go => ?_⟩
    unfold ev_body
    have hf' : ev_find M.2.2.2 (mu_e (pc, L, .inl x :: S, H) w c n).1 = some (.tableswitch dflt lo hi offs, d0 :: ts) := hf
    rw [hf']
    show (match ev_stepA ev_fds ev_jk ev_kb [] M.1 (.tableswitch dflt lo hi offs) (d0 :: ts) (mu_e (pc, L, .inl x :: S, H) w c n) with | some f1 => go f1 | none => none) = go (q, mu_m L, S.map mu_v, w, c + (mu_c H - mu_c H), n + (mu_s H - mu_s H))
    rw [ev_stepA_of (hq w c n), Nat.sub_self, Nat.sub_self]
    rfl
  by_cases q1 : x.toInt < lo
  · refine key d0 (fun w c n => ?_) (h1 (Or.inl q1))
    show (bif decide (x.toInt < lo) then some (d0, mu_m L, S.map mu_v, w, c, n) else _) = _
    rw [decide_eq_true q1]
    rfl
  · by_cases q2 : hi < x.toInt
    · refine key d0 (fun w c n => ?_) (h1 (Or.inr q2))
      show (bif decide (x.toInt < lo) then some (d0, mu_m L, S.map mu_v, w, c, n) else bif decide (hi < x.toInt) then some (d0, mu_m L, S.map mu_v, w, c, n) else _) = _
      rw [decide_eq_false q1, decide_eq_true q2]
      rfl
    · have hlt : (x.toInt - lo).toNat < ts.length := by omega
      have ht : ts[(x.toInt - lo).toNat]? = some (ts[(x.toInt - lo).toNat]) := List.getElem?_eq_getElem hlt
      refine key _ (fun w c n => ?_) (h2 _ _ ht (by omega))
      show (bif decide (x.toInt < lo) then some (d0, mu_m L, S.map mu_v, w, c, n) else bif decide (hi < x.toInt) then some (d0, mu_m L, S.map mu_v, w, c, n) else match ts[(x.toInt - lo).toNat]? with | some t => some (t, mu_m L, S.map mu_v, w, c, n) | none => none) = _
      rw [decide_eq_false q1, decide_eq_false q2, ht]
      rfl
theorem mu_rep_ex {H : mu_H} {w : List ev_C} (h : mu_rep H w) : mu_rep (mu_ex H) w := ⟨h.1, h.2.1, fun q x hx => mu_cell_same (H := H) (H' := mu_ex H) ⟨rfl, rfl, fun j tc => by unfold mu_f; split <;> rfl⟩ (h.2.2 q x hx)⟩
/-- throw new E() -/
theorem mu_throw {pc i1 i2 a b d g x p1 : Nat} {o1 o3 : List Nat} {L : mu_L} {S : List mu_V} {H : mu_H} {Φ : mu_R → Prop} (hf : ev_find M.2.2.2 pc = some (.new i1, [a, b, d, g, x])) (hf3 : ev_find M.2.2.2 (pc + 3) = some (.dup, o1)) (hf4 : ev_find M.2.2.2 (pc + 4) = some (.invokespecial i2, [p1, x])) (hf7 : ev_find M.2.2.2 (pc + 7) = some (.athrow, o3)) (hS : S.length ≤ 3) (hh : M.2.2.1 = []) (hx : x < 4) (hΦ : Φ (.inr x, mu_ex H)) : mu_HT run M (pc, L, S, H) Φ := by
  intro w c n hr
  refine ⟨(.inr x, mu_ex H), 1, (.inr x, w, c + 1, n + 6), ?_, ⟨rfl, mu_rep_ex hr, ?_, ?_, Nat.le_succ _, Nat.le_add_right _ _⟩, hΦ⟩
  · show ev_body (fun r => bif ev_rok M.2.1 M.2.2.1 r then some r else none) run ev_fds ev_jk ev_kb [] M.1 M.2.2.1 M.2.2.2 (ev_loop M.2.1 run ev_fds ev_jk ev_kb [] M.1 M.2.2.1 M.2.2.2 0) (mu_e (pc, L, S, H) w c n) = _
    unfold ev_body
    have hf' : ev_find M.2.2.2 (mu_e (pc, L, S, H) w c n).1 = some (.new i1, [a, b, d, g, x]) := hf
    rw [hf']
    show (match ev_find M.2.2.2 (pc + 3), ev_find M.2.2.2 (pc + 4), ev_find M.2.2.2 (pc + 7) with | some (.dup, _), some (.invokespecial _, [_, y]), some (.athrow, _) => (bif Nat.ble (S.map mu_v).length 3 && M.2.2.1.isEmpty && Nat.beq x y then (bif ev_rok M.2.1 M.2.2.1 ((.inr x, w, c + 1, n + 6) : ev_R) then some ((.inr x, w, c + 1, n + 6) : ev_R) else none) else none) | _, _, _ => none) = _
    rw [hf3, hf4, hf7, hh]
    have e1 : Nat.ble (S.map mu_v).length 3 = true := by rw [List.length_map]; exact Nat.ble_eq_true_of_le hS
    have e2 : Nat.blt x 4 = true := Nat.ble_eq_true_of_le hx
    show (bif Nat.ble (S.map mu_v).length 3 && true && Nat.beq x x then (bif Nat.blt x 4 && true then some ((.inr x, w, c + 1, n + 6) : ev_R) else none) else none) = _
    rw [e1, Nat.beq_refl, e2]
    rfl
  · show c + 1 = c + (mu_c H + 1 - mu_c H)
    omega
  · show n + 6 = n + (mu_s H + 6 - mu_s H)
    omega
/-- a virtual call that returns or throws -/
theorem mu_callx {pc idx j na ci : Nat} {rest : List Nat} {L : mu_L} {S as S1 : List mu_V} {o : Option Nat} {H : mu_H} {Φ Ψ : mu_R → Prop} (hf : ev_find M.2.2.2 pc = some (.invokevirtual idx, j :: na :: ci :: rest)) (hS : S.take na = as.reverse) (hS2 : S.drop na = .inr (.inr o) :: S1) (hn : as.length = na) (hw : mu_wds S1 ≤ 8) (hci : ci < 100) (ho : mu_is H o ci) (hT : mu_MT run j (.inr (.inr o) :: as) H Ψ) (hk : ∀ v H1, Ψ (.inl v, H1) → mu_HT run M (pc + 3, L, v.toList ++ S1, H1) Φ)
    (hx : ∀ x H1, Ψ (.inr x, H1) → (∃ t, ev_hand M.2.2.1 pc x = some t ∧ mu_HT run M (t, L, [.inr (.inr (some 3000000))], H1) Φ) ∨ (M.2.2.1 = [] ∧ x < 4 ∧ Φ (.inr x, H1))) : mu_HT run M (pc, L, S, H) Φ := by
  intro w c n hr
  obtain ⟨r, res, g1, g2, g3⟩ := hT w hr
  obtain ⟨q1, q2, q3, q4, q5, q6⟩ := g2
  obtain ⟨y, x1, x2, x3⟩ := mu_at hr ho
  have hrc : ev_body.ev_recv ev_jk w ci (mu_v (.inr (.inr o))) = true := by
    rw [x3]
    unfold ev_body.ev_recv
    dsimp only
    rw [x1]
    rcases y with (⟨cj, fs⟩ | ⟨t, N, d, wr⟩)
    · have e1 : mu_k H (mu_p o) = cj := x2.1
      have e2 : mu_k H (mu_p o) = ci := ho.2.2
      show (Nat.beq ci cj || _) = true
      rw [← e1, ← e2, Nat.beq_refl]
      rfl
    · have e1 : mu_k H (mu_p o) = 100 + t := x2.1
      have e2 : mu_k H (mu_p o) = ci := ho.2.2
      omega
  have hl : Nat.beq ((S.take na).reverse.map mu_v).length na = true := by rw [hS, List.reverse_reverse, List.length_map, hn]; exact Nat.beq_refl _
  have hwd : Nat.ble (ev_wds (S1.map mu_v)) 8 = true := by rw [mu_wds_m]; exact Nat.ble_eq_true_of_le hw
  have has : (S.take na).reverse.map mu_v = as.map mu_v := by rw [hS, List.reverse_reverse]
  have body : ∀ go : ev_F → Option ev_R, ev_body (fun r => bif ev_rok M.2.1 M.2.2.1 r then some r else none) run ev_fds ev_jk ev_kb [] M.1 M.2.2.1 M.2.2.2 go (mu_e (pc, L, S, H) w c n) = (match res with | (.inl rv, w1, c1, n1) => go (pc + 3, mu_m L, ev_opt rv ++ S1.map mu_v, w1, c + c1, n + n1) | (.inr x, w1, c1, n1) => match ev_hand M.2.2.1 pc x with | some t => go (t, mu_m L, [.inr none], w1, c + c1, n + n1) | none => match M.2.2.1 with | [] => (bif ev_rok M.2.1 M.2.2.1 ((.inr x, w1, c + c1, n + n1) : ev_R) then some ((.inr x, w1, c + c1, n + n1) : ev_R) else none) | _ => none) := by
    intro go
    unfold ev_body
    have hf' : ev_find M.2.2.2 (mu_e (pc, L, S, H) w c n).1 = some (.invokevirtual idx, j :: na :: ci :: rest) := hf
    rw [hf']
    show (match ev_args na (S.map mu_v) with | (as, o :: S1) => (bif Nat.beq as.length na && Nat.ble (ev_wds S1) 8 && ev_body.ev_recv ev_jk w ci o then (match run j (o :: as) w with | some (.inl rv, w1, c1, n1) => go (pc + 3, mu_m L, ev_opt rv ++ S1, w1, c + c1, n + n1) | some (.inr x, w1, c1, n1) => (match ev_hand M.2.2.1 pc x with | some t => go (t, mu_m L, [.inr none], w1, c + c1, n + n1) | none => match M.2.2.1 with | [] => (bif ev_rok M.2.1 M.2.2.1 ((.inr x, w1, c + c1, n + n1) : ev_R) then some ((.inr x, w1, c + c1, n + n1) : ev_R) else none) | _ => none) | none => none) else none) | _ => none) = _
    rw [mu_take, hS2]
    show (bif Nat.beq ((S.take na).reverse.map mu_v).length na && Nat.ble (ev_wds (S1.map mu_v)) 8 && ev_body.ev_recv ev_jk w ci (mu_v (.inr (.inr o))) then _ else none) = _
    rw [hl, hwd, hrc, has]
    have g1 : run j (mu_v (.inr (.inr o)) :: as.map mu_v) w = some res := g1
    show (match run j (mu_v (.inr (.inr o)) :: as.map mu_v) w with | some (.inl rv, w1, c1, n1) => _ | some (.inr x, w1, c1, n1) => _ | none => none) = _
    rw [g1]
    obtain ⟨res1, res2, res3, res4⟩ := res
    cases res1 <;> rfl
  obtain ⟨res1, res2, res3, res4⟩ := res
  obtain ⟨r1, H1⟩ := r
  cases r1 with
  | inl v =>
    have q1 : res1 = .inl (v.map mu_v) := q1
    subst q1
    obtain ⟨r', fuel, res', b1, b2, b3⟩ := hk v H1 g3 res2 (c + res3) (n + res4) q2
    refine ⟨r', fuel + 1, res', ?_, ?_, b3⟩
    · show ev_body (fun r => bif ev_rok M.2.1 M.2.2.1 r then some r else none) run ev_fds ev_jk ev_kb [] M.1 M.2.2.1 M.2.2.2 (ev_loop M.2.1 run ev_fds ev_jk ev_kb [] M.1 M.2.2.1 M.2.2.2 fuel) (mu_e (pc, L, S, H) w c n) = _
      rw [body]
      show ev_loop M.2.1 run ev_fds ev_jk ev_kb [] M.1 M.2.2.1 M.2.2.2 fuel (pc + 3, mu_m L, ev_opt (v.map mu_v) ++ S1.map mu_v, res2, c + res3, n + res4) = _
      rw [mu_opt, ← List.map_append]
      exact b1
    · have q3 : res3 = 0 + (mu_c H1 - mu_c H) := q3
      have q4 : res4 = 0 + (mu_s H1 - mu_s H) := q4
      rw [Nat.zero_add] at q3 q4
      rw [q3, q4] at b2
      exact mu_res_from q5 q6 b2
  | inr x =>
    have q1 : res1 = .inr x := q1
    subst q1
    have q3 : res3 = 0 + (mu_c H1 - mu_c H) := q3
    have q4 : res4 = 0 + (mu_s H1 - mu_s H) := q4
    rw [Nat.zero_add] at q3 q4
    rcases hx x H1 g3 with ⟨t, ht, hG⟩ | ⟨hh, hx4, hΦ⟩
    · obtain ⟨r', fuel, res', b1, b2, b3⟩ := hG res2 (c + res3) (n + res4) q2
      refine ⟨r', fuel + 1, res', ?_, ?_, b3⟩
      · show ev_body (fun r => bif ev_rok M.2.1 M.2.2.1 r then some r else none) run ev_fds ev_jk ev_kb [] M.1 M.2.2.1 M.2.2.2 (ev_loop M.2.1 run ev_fds ev_jk ev_kb [] M.1 M.2.2.1 M.2.2.2 fuel) (mu_e (pc, L, S, H) w c n) = _
        rw [body]
        dsimp only
        rw [ht]
        exact b1
      · rw [q3, q4] at b2
        exact mu_res_from q5 q6 b2
    · refine ⟨(.inr x, H1), 1, (.inr x, res2, c + res3, n + res4), ?_, ⟨rfl, q2, by rw [q3], by rw [q4], q5, q6⟩, hΦ⟩
      show ev_body (fun r => bif ev_rok M.2.1 M.2.2.1 r then some r else none) run ev_fds ev_jk ev_kb [] M.1 M.2.2.1 M.2.2.2 (ev_loop M.2.1 run ev_fds ev_jk ev_kb [] M.1 M.2.2.1 M.2.2.2 0) (mu_e (pc, L, S, H) w c n) = _
      rw [body]
      dsimp only
      rw [hh]
      have e2 : Nat.blt x 4 = true := Nat.ble_eq_true_of_le hx4
      show (bif Nat.blt x 4 && true then some ((.inr x, res2, c + res3, n + res4) : ev_R) else none) = _
      rw [e2]
      rfl
end MuMore
