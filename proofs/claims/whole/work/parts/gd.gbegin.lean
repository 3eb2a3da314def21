/-! GRAPH: begin (STATES that share a row side by side) -/
/-- how many of the first STATES have a row, a row before it -/
def czz (rx : Nat → Nat) (r : Nat) : Nat → Nat
  | 0 => 0
  | n + 1 => czz rx r n + (if rx n = r then 1 else 0)
def pzz (rx : Nat → Nat) (r : Nat) : Nat → Nat
  | 0 => 0
  | n + 1 => pzz rx r n + (if rx n < r then 1 else 0)
section Counted
variable {rx : Nat → Nat} {r r' s s' T k : Nat}
theorem czz_at (h : rx s = r) : czz rx r (s + 1) = czz rx r s + 1 := by
  show czz rx r s + (if rx s = r then 1 else 0) = _
  rw [if_pos h]
theorem czz_ne (h : ¬ rx s = r) : czz rx r (s + 1) = czz rx r s := by
  show czz rx r s + (if rx s = r then 1 else 0) = _
  rw [if_neg h]
  rfl
theorem pzz_s : ∀ T, pzz rx (r + 1) T = pzz rx r T + czz rx r T
  | 0 => rfl
  | T + 1 => by
    have ih := pzz_s T
    show pzz rx (r + 1) T + (if rx T < r + 1 then 1 else 0) = pzz rx r T + (if rx T < r then 1 else 0) + (czz rx r T + (if rx T = r then 1 else 0))
    rw [ih]
    by_cases h1 : rx T < r
    · rw [if_pos (by omega), if_pos h1, if_neg (by omega)]
      omega
    · by_cases h2 : rx T = r
      · rw [if_pos (by omega), if_neg h1, if_pos h2]
        omega
      · rw [if_neg (by omega), if_neg h1, if_neg h2]
        omega
theorem pzz_0 : ∀ T, pzz rx 0 T = 0
  | 0 => rfl
  | T + 1 => by
    show pzz rx 0 T + (if rx T < 0 then 1 else 0) = 0
    rw [pzz_0 T, if_neg (by omega)]
theorem pzz_le : ∀ T, pzz rx r T ≤ T
  | 0 => Nat.le_refl _
  | T + 1 => by
    have ih := pzz_le T
    show pzz rx r T + (if rx T < r then 1 else 0) ≤ T + 1
    by_cases h : rx T < r
    · rw [if_pos h]
      omega
    · rw [if_neg h]
      omega
theorem pzz_all (h : ∀ s, s < T → rx s < r) : pzz rx r T = T := by
  induction T with
  | zero => rfl
  | succ T ih =>
    show pzz rx r T + (if rx T < r then 1 else 0) = T + 1
    rw [ih (fun s hs => h s (by omega)), if_pos (h T (by omega))]
theorem pzz_up (h : r ≤ r') : ∀ T, pzz rx r T ≤ pzz rx r' T
  | 0 => Nat.le_refl _
  | T + 1 => by
    have ih := pzz_up h T
    show pzz rx r T + (if rx T < r then 1 else 0) ≤ pzz rx r' T + (if rx T < r' then 1 else 0)
    by_cases h1 : rx T < r
    · rw [if_pos h1, if_pos (by omega)]
      omega
    · rw [if_neg h1]
      omega
theorem czz_up (h : s ≤ s') : czz rx r s ≤ czz rx r s' := by
  induction s' with
  | zero =>
    rw [show s = 0 by omega]
    exact Nat.le_refl _
  | succ s' ih =>
    by_cases e : s = s' + 1
    · rw [e]
      exact Nat.le_refl _
    · have y := ih (by omega)
      show czz rx r s ≤ czz rx r s' + _
      omega
theorem czz_lt (hs : s < T) (h : rx s = r) : czz rx r s < czz rx r T := by
  have y := czz_up (rx := rx) (r := r) (show s + 1 ≤ T by omega)
  rw [czz_at h] at y
  omega
theorem czz_ex (h : k < czz rx r T) : ∃ s, s < T ∧ rx s = r ∧ czz rx r s = k := by
  induction T with
  | zero => exact absurd h (Nat.not_lt_zero _)
  | succ T ih =>
    by_cases h1 : k < czz rx r T
    · obtain ⟨s, s1, s2⟩ := ih h1
      exact ⟨s, by omega, s2⟩
    · by_cases h2 : rx T = r
      · rw [czz_at h2] at h
        exact ⟨T, by omega, h2, by omega⟩
      · rw [czz_ne h2] at h
        exact absurd h h1
/-- where a STATE stands among all, sorted by rows -/
def psz (rx : Nat → Nat) (T s : Nat) : Nat := pzz rx (rx s) T + czz rx (rx s) s
theorem psz_lt (hs : s < T) : psz rx T s < T := by
  have y1 := czz_lt (rx := rx) hs rfl
  have y2 := pzz_s (rx := rx) (r := rx s) T
  have y3 := pzz_le (rx := rx) (r := rx s + 1) T
  unfold psz
  omega
theorem psz_ne (hs : s < T) (hs' : s' < T) (h : ¬ s = s') : ¬ psz rx T s = psz rx T s' := by
  unfold psz
  have y1 := czz_lt (rx := rx) hs rfl
  have y1' := czz_lt (rx := rx) hs' rfl
  have y2 := pzz_s (rx := rx) (r := rx s) T
  have y2' := pzz_s (rx := rx) (r := rx s') T
  rcases Nat.lt_or_ge (rx s) (rx s') with c | c
  · have y := pzz_up (rx := rx) (show rx s + 1 ≤ rx s' by omega) T
    omega
  · rcases Nat.lt_or_ge (rx s') (rx s) with c2 | c2
    · have y := pzz_up (rx := rx) (show rx s' + 1 ≤ rx s by omega) T
      omega
    · have e : rx s = rx s' := by omega
      rw [e]
      rcases Nat.lt_or_ge s s' with d | d
      · have y := czz_lt (rx := rx) d e
        omega
      · have y := czz_lt (rx := rx) (show s' < s by omega) rfl
        omega
theorem pzz_row {y : Nat} (h2 : 2 ≤ y) : (if y < 2 then 0 else if y < y then pzz rx (y - 1) T else czz rx (y - 2) T) + (if y - 1 < 2 then 0 else if y - 1 < y then pzz rx (y - 1 - 1) T else czz rx (y - 1 - 2) T) = (if y < 2 then 0 else if y < y + 1 then pzz rx (y - 1) T else czz rx (y - 2) T) := by
  simp only [if_neg (show ¬ y < 2 by omega), if_neg (show ¬ y < y by omega), if_pos (show y < y + 1 by omega), if_pos (show y - 1 < y by omega)]
  have s := pzz_s (rx := rx) (r := y - 2) T
  rw [show y - 2 + 1 = y - 1 by omega] at s
  by_cases e : y - 1 < 2
  · rw [if_pos e]
    have z : pzz rx (y - 2) T = 0 := by
      rw [show y - 2 = 0 by omega]
      exact pzz_0 T
    omega
  · rw [if_neg e, show y - 1 - 1 = y - 2 by omega]
    omega
end Counted
section GraphBegin
variable {H : mu_H} {U V : Ud} {m d P N fb R T : Nat} {C : Nat → Nat} {f rx : Nat → Nat}
def F337 : Uf := ⟨[], [(147, 15)], [(147, 10), (147, 11), (147, 12), (147, 13)], [(147, 10), (147, 11), (147, 12), (147, 13)], [], false⟩
theorem czz_le {r : Nat} : ∀ n, czz rx r n ≤ n
  | 0 => Nat.le_refl _
  | n + 1 => by
    have ih := czz_le (r := r) n
    show czz rx r n + (if rx n = r then 1 else 0) ≤ n + 1
    by_cases h : rx n = r
    · rw [if_pos h]
      omega
    · rw [if_neg h]
      omega
theorem pzz_sum {y : Nat} (hy : 2 ≤ y) : czz rx (y - 2) T + (if y - 1 < 2 then 0 else if y - 1 < y then pzz rx (y - 1 - 1) T else czz rx (y - 1 - 2) T) = pzz rx (y - 1) T := by
  have e : y - 1 = y - 2 + 1 := by omega
  have y3 := pzz_s (rx := rx) (r := y - 2) T
  rw [e, y3]
  by_cases c : y - 2 + 1 < 2
  · rw [if_pos c, show y - 2 = 0 by omega, pzz_0]
    omega
  · rw [if_neg c, if_pos (by omega), show y - 2 + 1 - 1 = y - 2 by omega]
    omega
def F337a : Uf := ⟨[], [], [(147, 10)], [], [], false⟩
def F337b : Uf := ⟨[], [], [(147, 10)], [], [], false⟩
def F337c : Uf := ⟨[], [], [(147, 10)], [], [], false⟩
def F337j : Uf := ⟨[], [], [(147, 10), (147, 11)], [], [], false⟩
/-- PathProver$Graph.begin()V -/
abbrev mu_m337 : ev_M := (4, none, [], ev_b337)
theorem mu_g337 : mu_good mu_m337 := mu_goodk ev_k337
theorem gr_begin (h : um m H) (e : ud m H = U) (hS : spx m U P f) (hT : T = pd f 0 P) (hN : U.2.1 113 2 = nI N) (hfb : U.2.1 113 8 = nI fb) (hfN : fb ≤ N) (hR : R = N - fb) (hRT : R ≤ T + 1) (hrw : ∀ s, s < T → (U.2.2.1 129 6).2 s = nI (rx s) ∧ rx s < R) (h6 : T ≤ (U.2.2.1 129 6).1) (h6b : (U.2.2.1 129 6).1 ≤ 16777216) (hw10 : lwh 7 (U.2.2.1 147 10).1) (hw11 : lwh 1 (U.2.2.1 147 11).1) (hw12 : lwh 1 (U.2.2.1 147 12).1) (hw13 : lwh 1 (U.2.2.1 147 13).1) : mu_TV (mu_D (d + 3)) 337 [.inr (.inr (some 147))] H (fun H1 => um m H1 ∧ ur m C H H1 ∧ uq F337 U (ud m H1) ∧ (ud m H1).2.1 147 15 = -1 ∧ (7 * (T + 4) ≤ ((ud m H1).2.2.1 147 10).1 ∧ lwh 7 ((ud m H1).2.2.1 147 10).1 ∧ 1 * (T + 4) ≤ ((ud m H1).2.2.1 147 11).1 ∧ lwh 1 ((ud m H1).2.2.1 147 11).1 ∧ 1 * (T + 4) ≤ ((ud m H1).2.2.1 147 12).1 ∧ lwh 1 ((ud m H1).2.2.1 147 12).1 ∧ 1 * (T + 4) ≤ ((ud m H1).2.2.1 147 13).1 ∧ lwh 1 ((ud m H1).2.2.1 147 13).1) ∧ (∀ r, r < R + 1 → ((ud m H1).2.2.1 147 10).2 (r * 7 + 0) = nI (pzz rx r T)) ∧ ∀ s, s < T → ((ud m H1).2.2.1 147 11).2 (psz rx T s) = nI s) := by
  obtain ⟨⟨s4, s10, s11, s12⟩, hk5, ⟨g8, g8b, g18, g18b⟩, ⟨gP, gpd, gsm⟩, hsp, hmo⟩ := id hS
  have hTb : T ≤ 16384 := by rw [hT]; exact gpd
  refine mu_meth (M := mu_m337) rfl rfl ?_
  refine mw_ht (mu_fn_of (show [0].Nodup by decide)) ?_
  refine mw_go mu_g337 (k := 2) (f1 := (4, [(0, .inr (.inr (some 147)))], [.inr (.inr (mu_r H 147 1))], H)) (C := [mu_is H (some 147) 2]) rfl (show mu_is H (some 147) 2 from (h.1.1.is rfl)) ?_
  rw [(h.1.1.r (p := 147) (j := 1) (q := 129) rfl)]
  refine mw_cIe (fun _ => rfl) (show mu_is H (some 129) 9 from (h.1.1.is rfl)) (rl_rows (d := (d + 1)) h e hfb hN hfN) ?_
  rw [show nI (N - fb) = nI R from congrArg nI hR.symm]
  refine mw_go mu_g337 (k := 4) (f1 := (13, [(1, .inl (nI R)), (0, .inr (.inr (some 147)))], [.inr (.inr (mu_r H 147 10)), .inr (.inr (some 147))], H)) (C := [mu_is H (some 147) 2]) rfl (show mu_is H (some 147) 2 from (h.1.1.is rfl)) ?_
  rw [(show mu_r H 147 10 = (U.2.2.2.1 147 10) from (ud_q (U := U) (m := m) (P := 147) (j := 10) e rfl))]
  refine mw_go mu_g337 (k := 2) (f1 := (17, [(1, .inl (nI R)), (0, .inr (.inr (some 147)))], [.inr (.inr (mu_r H 147 0)), .inr (.inr (U.2.2.2.1 147 10)), .inr (.inr (some 147))], H)) (C := [mu_is H (some 147) 2]) rfl (show mu_is H (some 147) 2 from (h.1.1.is rfl)) ?_
  rw [(h.1.1.r (p := 147) (j := 0) (q := 99) rfl)]
  refine mw_go mu_g337 (k := 1) (f1 := (20, [(1, .inl (nI R)), (0, .inr (.inr (some 147)))], [.inl (mu_i H 99 11), .inr (.inr (U.2.2.2.1 147 10)), .inr (.inr (some 147))], H)) (C := [mu_is H (some 99) 13]) rfl (show mu_is H (some 99) 13 from (h.1.1.is rfl)) ?_
  rw [(show mu_i H 99 11 = (nI (pd f 0 P)) from (ud_i (U := U) (m := m) (P := 99) (j := 11) e rfl).trans s11)]
  refine mw_go mu_g337 (k := 1) (f1 := (22, [(1, .inl (nI R)), (0, .inr (.inr (some 147)))], [.inl (7 : Int32), .inl (nI (pd f 0 P)), .inr (.inr (U.2.2.2.1 147 10)), .inr (.inr (some 147))], H)) (C := []) rfl trivial ?_
  refine mw_cA (fun _ => rfl) trivial (fitStates_ok (d := d) (n := pd f 0 P) (e := 7) (h.iA e rfl rfl (show U.2.2.2.1 147 10 = (U.2.2.2.1 147 10) from rfl)) (by omega) (by decide) h.1.1.z (by rw [show mu_n H (mu_p (U.2.2.2.1 147 10)) = (U.2.2.1 147 10).1 from (h.nA e rfl rfl (show U.2.2.2.1 147 10 = (U.2.2.2.1 147 10) from rfl) (show (U.2.2.1 147 10).1 = (U.2.2.1 147 10).1 from rfl))]; exact hw10)) (fun x2 E2 q2 => ?_)
  refine mw_go mu_g337 (k := 1) (f1 := (28, [(1, .inl (nI R)), (0, .inr (.inr (some 147)))], [], (mu_sr E2 147 10 x2))) (C := [mu_is E2 (some 147) 2]) rfl (show mu_is E2 (some 147) 2 from fitT_is (h.1.1.is rfl) q2) ?_
  obtain ⟨u2, r2, z2, fl2, fb2⟩ := h.fitT (C := C) (P := 147) (J := 10) (n := pd f 0 P) (e := 7) (Fr := (⟨[], [], [(147, 10)], [(147, 10)], [], false⟩ : Uf)) e rfl rfl rfl ((ud_q (m := m) (P := 147) (j := 10) e rfl).trans (show U.2.2.2.1 147 10 = (U.2.2.2.1 147 10) from rfl)) (by rw [(show (U.2.2.1 147 10).1 = (U.2.2.1 147 10).1 from rfl)]; exact hw10) q2 rfl rfl
  generalize (mu_sr E2 147 10 x2) = Q2 at u2 r2 z2 fl2 fb2 ⊢
  clear q2
  have ht2 : ur m C H Q2 := (ur.refl m C H).trans r2
  obtain ⟨V2, d2⟩ : ∃ V, ud m Q2 = V := ⟨_, rfl⟩
  rw [d2] at z2 fl2 fb2
  have fk2 : (V2.2.2.1 147 10).1 ≤ 114716 := by have y := fb2; unfold lwh at y; omega
  have qf2 : uq F337 U V2 := (uq.refl F337 U).tr z2 rfl
  refine mw_go mu_g337 (k := 3) (f1 := (33, [(1, .inl (nI R)), (0, .inr (.inr (some 147)))], [.inr (.inr (mu_r Q2 147 11)), .inr (.inr (some 147))], Q2)) (C := [mu_is Q2 (some 147) 2]) rfl (show mu_is Q2 (some 147) 2 from (u2.1.1.is rfl)) ?_
  rw [(show mu_r Q2 147 11 = (U.2.2.2.1 147 11) from (ud_q (U := V2) (m := m) (P := 147) (j := 11) d2 rfl).trans (z2.r 147 11 rfl))]
  refine mw_go mu_g337 (k := 2) (f1 := (37, [(1, .inl (nI R)), (0, .inr (.inr (some 147)))], [.inr (.inr (mu_r Q2 147 0)), .inr (.inr (U.2.2.2.1 147 11)), .inr (.inr (some 147))], Q2)) (C := [mu_is Q2 (some 147) 2]) rfl (show mu_is Q2 (some 147) 2 from (u2.1.1.is rfl)) ?_
  rw [(u2.1.1.r (p := 147) (j := 0) (q := 99) rfl)]
  refine mw_go mu_g337 (k := 1) (f1 := (40, [(1, .inl (nI R)), (0, .inr (.inr (some 147)))], [.inl (mu_i Q2 99 11), .inr (.inr (U.2.2.2.1 147 11)), .inr (.inr (some 147))], Q2)) (C := [mu_is Q2 (some 99) 13]) rfl (show mu_is Q2 (some 99) 13 from (u2.1.1.is rfl)) ?_
  rw [(show mu_i Q2 99 11 = (nI (pd f 0 P)) from (ud_i (U := V2) (m := m) (P := 99) (j := 11) d2 rfl).trans ((z2.i 99 11 rfl).trans s11))]
  refine mw_go mu_g337 (k := 1) (f1 := (41, [(1, .inl (nI R)), (0, .inr (.inr (some 147)))], [.inl (1 : Int32), .inl (nI (pd f 0 P)), .inr (.inr (U.2.2.2.1 147 11)), .inr (.inr (some 147))], Q2)) (C := []) rfl trivial ?_
  refine mw_cA (fun _ => rfl) trivial (fitStates_ok (d := d) (n := pd f 0 P) (e := 1) (u2.iA d2 rfl rfl (show V2.2.2.2.1 147 11 = (U.2.2.2.1 147 11) from (z2.r 147 11 rfl))) (by omega) (by decide) u2.1.1.z (by rw [show mu_n Q2 (mu_p (U.2.2.2.1 147 11)) = (U.2.2.1 147 11).1 from (u2.nA d2 rfl rfl (show V2.2.2.2.1 147 11 = (U.2.2.2.1 147 11) from (z2.r 147 11 rfl)) (show (V2.2.2.1 147 11).1 = (U.2.2.1 147 11).1 from (z2.n 147 11 rfl)))]; exact hw11)) (fun x3 E3 q3 => ?_)
  refine mw_go mu_g337 (k := 1) (f1 := (47, [(1, .inl (nI R)), (0, .inr (.inr (some 147)))], [], (mu_sr E3 147 11 x3))) (C := [mu_is E3 (some 147) 2]) rfl (show mu_is E3 (some 147) 2 from fitT_is (u2.1.1.is rfl) q3) ?_
  obtain ⟨u3, r3, z3, fl3, fb3⟩ := u2.fitT (C := C) (P := 147) (J := 11) (n := pd f 0 P) (e := 1) (Fr := (⟨[], [], [(147, 11)], [(147, 11)], [], false⟩ : Uf)) d2 rfl rfl rfl ((ud_q (m := m) (P := 147) (j := 11) d2 rfl).trans (show V2.2.2.2.1 147 11 = (U.2.2.2.1 147 11) from (z2.r 147 11 rfl))) (by rw [(show (V2.2.2.1 147 11).1 = (U.2.2.1 147 11).1 from (z2.n 147 11 rfl))]; exact hw11) q3 rfl rfl
  generalize (mu_sr E3 147 11 x3) = Q3 at u3 r3 z3 fl3 fb3 ⊢
  clear q3
  have ht3 : ur m C H Q3 := ht2.trans r3
  obtain ⟨V3, d3⟩ : ∃ V, ud m Q3 = V := ⟨_, rfl⟩
  rw [d3] at z3 fl3 fb3
  have fk3 : (V3.2.2.1 147 11).1 ≤ 114716 := by have y := fb3; unfold lwh at y; omega
  have qf3 : uq F337 U V3 := qf2.tr z3 rfl
  refine mw_go mu_g337 (k := 3) (f1 := (52, [(1, .inl (nI R)), (0, .inr (.inr (some 147)))], [.inr (.inr (mu_r Q3 147 12)), .inr (.inr (some 147))], Q3)) (C := [mu_is Q3 (some 147) 2]) rfl (show mu_is Q3 (some 147) 2 from (u3.1.1.is rfl)) ?_
  rw [(show mu_r Q3 147 12 = (U.2.2.2.1 147 12) from (ud_q (U := V3) (m := m) (P := 147) (j := 12) d3 rfl).trans ((z3.r 147 12 rfl).trans (z2.r 147 12 rfl)))]
  refine mw_go mu_g337 (k := 2) (f1 := (56, [(1, .inl (nI R)), (0, .inr (.inr (some 147)))], [.inr (.inr (mu_r Q3 147 0)), .inr (.inr (U.2.2.2.1 147 12)), .inr (.inr (some 147))], Q3)) (C := [mu_is Q3 (some 147) 2]) rfl (show mu_is Q3 (some 147) 2 from (u3.1.1.is rfl)) ?_
  rw [(u3.1.1.r (p := 147) (j := 0) (q := 99) rfl)]
  refine mw_go mu_g337 (k := 1) (f1 := (59, [(1, .inl (nI R)), (0, .inr (.inr (some 147)))], [.inl (mu_i Q3 99 11), .inr (.inr (U.2.2.2.1 147 12)), .inr (.inr (some 147))], Q3)) (C := [mu_is Q3 (some 99) 13]) rfl (show mu_is Q3 (some 99) 13 from (u3.1.1.is rfl)) ?_
  rw [(show mu_i Q3 99 11 = (nI (pd f 0 P)) from (ud_i (U := V3) (m := m) (P := 99) (j := 11) d3 rfl).trans ((z3.i 99 11 rfl).trans ((z2.i 99 11 rfl).trans s11)))]
  refine mw_go mu_g337 (k := 1) (f1 := (60, [(1, .inl (nI R)), (0, .inr (.inr (some 147)))], [.inl (1 : Int32), .inl (nI (pd f 0 P)), .inr (.inr (U.2.2.2.1 147 12)), .inr (.inr (some 147))], Q3)) (C := []) rfl trivial ?_
  refine mw_cA (fun _ => rfl) trivial (fitStates_ok (d := d) (n := pd f 0 P) (e := 1) (u3.iA d3 rfl rfl (show V3.2.2.2.1 147 12 = (U.2.2.2.1 147 12) from ((z3.r 147 12 rfl).trans (z2.r 147 12 rfl)))) (by omega) (by decide) u3.1.1.z (by rw [show mu_n Q3 (mu_p (U.2.2.2.1 147 12)) = (U.2.2.1 147 12).1 from (u3.nA d3 rfl rfl (show V3.2.2.2.1 147 12 = (U.2.2.2.1 147 12) from ((z3.r 147 12 rfl).trans (z2.r 147 12 rfl))) (show (V3.2.2.1 147 12).1 = (U.2.2.1 147 12).1 from ((z3.n 147 12 rfl).trans (z2.n 147 12 rfl))))]; exact hw12)) (fun x4 E4 q4 => ?_)
  refine mw_go mu_g337 (k := 1) (f1 := (66, [(1, .inl (nI R)), (0, .inr (.inr (some 147)))], [], (mu_sr E4 147 12 x4))) (C := [mu_is E4 (some 147) 2]) rfl (show mu_is E4 (some 147) 2 from fitT_is (u3.1.1.is rfl) q4) ?_
  obtain ⟨u4, r4, z4, fl4, fb4⟩ := u3.fitT (C := C) (P := 147) (J := 12) (n := pd f 0 P) (e := 1) (Fr := (⟨[], [], [(147, 12)], [(147, 12)], [], false⟩ : Uf)) d3 rfl rfl rfl ((ud_q (m := m) (P := 147) (j := 12) d3 rfl).trans (show V3.2.2.2.1 147 12 = (U.2.2.2.1 147 12) from ((z3.r 147 12 rfl).trans (z2.r 147 12 rfl)))) (by rw [(show (V3.2.2.1 147 12).1 = (U.2.2.1 147 12).1 from ((z3.n 147 12 rfl).trans (z2.n 147 12 rfl)))]; exact hw12) q4 rfl rfl
  generalize (mu_sr E4 147 12 x4) = Q4 at u4 r4 z4 fl4 fb4 ⊢
  clear q4
  have ht4 : ur m C H Q4 := ht3.trans r4
  obtain ⟨V4, d4⟩ : ∃ V, ud m Q4 = V := ⟨_, rfl⟩
  rw [d4] at z4 fl4 fb4
  have fk4 : (V4.2.2.1 147 12).1 ≤ 114716 := by have y := fb4; unfold lwh at y; omega
  have qf4 : uq F337 U V4 := qf3.tr z4 rfl
  refine mw_go mu_g337 (k := 3) (f1 := (71, [(1, .inl (nI R)), (0, .inr (.inr (some 147)))], [.inr (.inr (mu_r Q4 147 13)), .inr (.inr (some 147))], Q4)) (C := [mu_is Q4 (some 147) 2]) rfl (show mu_is Q4 (some 147) 2 from (u4.1.1.is rfl)) ?_
  rw [(show mu_r Q4 147 13 = (U.2.2.2.1 147 13) from (ud_q (U := V4) (m := m) (P := 147) (j := 13) d4 rfl).trans ((z4.r 147 13 rfl).trans ((z3.r 147 13 rfl).trans (z2.r 147 13 rfl))))]
  refine mw_go mu_g337 (k := 2) (f1 := (75, [(1, .inl (nI R)), (0, .inr (.inr (some 147)))], [.inr (.inr (mu_r Q4 147 0)), .inr (.inr (U.2.2.2.1 147 13)), .inr (.inr (some 147))], Q4)) (C := [mu_is Q4 (some 147) 2]) rfl (show mu_is Q4 (some 147) 2 from (u4.1.1.is rfl)) ?_
  rw [(u4.1.1.r (p := 147) (j := 0) (q := 99) rfl)]
  refine mw_go mu_g337 (k := 1) (f1 := (78, [(1, .inl (nI R)), (0, .inr (.inr (some 147)))], [.inl (mu_i Q4 99 11), .inr (.inr (U.2.2.2.1 147 13)), .inr (.inr (some 147))], Q4)) (C := [mu_is Q4 (some 99) 13]) rfl (show mu_is Q4 (some 99) 13 from (u4.1.1.is rfl)) ?_
  rw [(show mu_i Q4 99 11 = (nI (pd f 0 P)) from (ud_i (U := V4) (m := m) (P := 99) (j := 11) d4 rfl).trans ((z4.i 99 11 rfl).trans ((z3.i 99 11 rfl).trans ((z2.i 99 11 rfl).trans s11))))]
  refine mw_go mu_g337 (k := 1) (f1 := (79, [(1, .inl (nI R)), (0, .inr (.inr (some 147)))], [.inl (1 : Int32), .inl (nI (pd f 0 P)), .inr (.inr (U.2.2.2.1 147 13)), .inr (.inr (some 147))], Q4)) (C := []) rfl trivial ?_
  refine mw_cA (fun _ => rfl) trivial (fitStates_ok (d := d) (n := pd f 0 P) (e := 1) (u4.iA d4 rfl rfl (show V4.2.2.2.1 147 13 = (U.2.2.2.1 147 13) from ((z4.r 147 13 rfl).trans ((z3.r 147 13 rfl).trans (z2.r 147 13 rfl))))) (by omega) (by decide) u4.1.1.z (by rw [show mu_n Q4 (mu_p (U.2.2.2.1 147 13)) = (U.2.2.1 147 13).1 from (u4.nA d4 rfl rfl (show V4.2.2.2.1 147 13 = (U.2.2.2.1 147 13) from ((z4.r 147 13 rfl).trans ((z3.r 147 13 rfl).trans (z2.r 147 13 rfl)))) (show (V4.2.2.1 147 13).1 = (U.2.2.1 147 13).1 from ((z4.n 147 13 rfl).trans ((z3.n 147 13 rfl).trans (z2.n 147 13 rfl)))))]; exact hw13)) (fun x5 E5 q5 => ?_)
  refine mw_go mu_g337 (k := 1) (f1 := (85, [(1, .inl (nI R)), (0, .inr (.inr (some 147)))], [], (mu_sr E5 147 13 x5))) (C := [mu_is E5 (some 147) 2]) rfl (show mu_is E5 (some 147) 2 from fitT_is (u4.1.1.is rfl) q5) ?_
  obtain ⟨u5, r5, z5, fl5, fb5⟩ := u4.fitT (C := C) (P := 147) (J := 13) (n := pd f 0 P) (e := 1) (Fr := (⟨[], [], [(147, 13)], [(147, 13)], [], false⟩ : Uf)) d4 rfl rfl rfl ((ud_q (m := m) (P := 147) (j := 13) d4 rfl).trans (show V4.2.2.2.1 147 13 = (U.2.2.2.1 147 13) from ((z4.r 147 13 rfl).trans ((z3.r 147 13 rfl).trans (z2.r 147 13 rfl))))) (by rw [(show (V4.2.2.1 147 13).1 = (U.2.2.1 147 13).1 from ((z4.n 147 13 rfl).trans ((z3.n 147 13 rfl).trans (z2.n 147 13 rfl))))]; exact hw13) q5 rfl rfl
  generalize (mu_sr E5 147 13 x5) = Q5 at u5 r5 z5 fl5 fb5 ⊢
  clear q5
  have ht5 : ur m C H Q5 := ht4.trans r5
  obtain ⟨V5, d5⟩ : ∃ V, ud m Q5 = V := ⟨_, rfl⟩
  rw [d5] at z5 fl5 fb5
  have fk5 : (V5.2.2.1 147 13).1 ≤ 114716 := by have y := fb5; unfold lwh at y; omega
  have qf5 : uq F337 U V5 := qf4.tr z5 rfl
  refine mw_go mu_g337 (k := 3) (f1 := (90, [(1, .inl (nI R)), (0, .inr (.inr (some 147)))], [], (mu_si Q5 147 15 (-1 : Int32)))) (C := [mu_is Q5 (some 147) 2]) rfl (show mu_is Q5 (some 147) 2 from (u5.1.1.is rfl)) ?_
  obtain ⟨u6, r6, d6⟩ : um m (mu_si Q5 147 15 (-1 : Int32)) ∧ ur m C Q5 (mu_si Q5 147 15 (-1 : Int32)) ∧ ud m (mu_si Q5 147 15 (-1 : Int32)) = (upI V5 147 15 (-1 : Int32)) := u5.sI (C := C) d5 rfl
  generalize (mu_si Q5 147 15 (-1 : Int32)) = Q6 at u6 r6 d6 ⊢
  have qf6 : uq F337 U (upI V5 147 15 (-1 : Int32)) := qf5.I rfl
  have ht6 : ur m C H Q6 := ht5.trans r6
  rw [← hT] at fl2 fl3 fl4 fl5
  refine mw_go mu_g337 (k := 2) (f1 := (92, [(2, .inl (0 : Int32)), (1, .inl (nI R)), (0, .inr (.inr (some 147)))], [], Q6)) (C := []) rfl trivial ?_
  show mu_W _ _ (92, [(2, .inl (nI 0)), (1, .inl (nI R)), (0, .inr (.inr (some 147)))], [], Q6) _
  refine mw_sub (L' := [(2, .inl (nI 0)), (0, .inr (.inr (some 147))), (1, .inl (nI R))]) (by simp) ?_
  refine mw_down (α := Nat × mu_H) (fun zs => (92, [(2, .inl (nI zs.1)), (0, .inr (.inr (some 147))), (1, .inl (nI R))], [], zs.2)) (fun zs => R + 2 - zs.1) (fun zs => um m zs.2 ∧ ur m C H zs.2 ∧ (uq F337a (upI V5 147 15 (-1 : Int32)) (ud m zs.2)) ∧ (zs.1 ≤ R + 2) ∧ (∀ r, r < zs.1 → ((ud m zs.2).2.2.1 147 10).2 (r * 7 + 0) = 0)) (fun zs hza iha => ?_) (0, Q6) ⟨u6, ht6, (show uq F337a (upI V5 147 15 (-1 : Int32)) (ud m Q6) from by rw [d6]; exact uq.refl _ _), (show 0 ≤ R + 2 from (by omega)), (show ∀ r, r < 0 → ((ud m Q6).2.2.1 147 10).2 (r * 7 + 0) = 0 from by rw [d6]; exact (fun r hr => absurd hr (Nat.not_lt_zero r)))⟩
  obtain ⟨v, Hsa⟩ := zs
  obtain ⟨ua, hta, da, hv, hna⟩ := hza
  have ua : um m Hsa := ua
  have hta : ur m C H Hsa := hta
  have zza : uq F337a (upI V5 147 15 (-1 : Int32)) (ud m Hsa) := da
  have hv : v ≤ R + 2 := hv
  have hna : ∀ r, r < v → ((ud m Hsa).2.2.1 147 10).2 (r * 7 + 0) = 0 := hna
  obtain ⟨Va, da⟩ : ∃ V, ud m Hsa = V := ⟨_, rfl⟩
  rw [da] at zza hna
  have qfa : uq F337 U Va := qf6.tr zza rfl
  show mu_W _ _ (92, [(2, .inl (nI v)), (0, .inr (.inr (some 147))), (1, .inl (nI R))], [], Hsa) _
  refine mw_go mu_g337 (k := 4) (f1 := (96, [(2, .inl (nI v)), (0, .inr (.inr (some 147))), (1, .inl (nI R))], [.inl ((nI R) + (2 : Int32)), .inl (nI v)], Hsa)) (C := []) rfl trivial ?_
  rw [(show ((nI R) + (2 : Int32)) = (nI (R + 2)) from (nI_add R 2))]
  refine mw_if (P := (nI v) < (nI (R + 2))) (a := 99) (b := 112) (fun _ => rfl) trivial (fun h7 => ?_) (fun h7 => ?_)
  · -- 99: (nI v) < (nI (R + 2))
    have nh7 : v < (R + 2) := (nI_ltI (by omega) (by omega)).mp (show nI v < nI (R + 2) from h7)
    refine mw_go mu_g337 (k := 4) (f1 := (103, [(2, .inl (nI v)), (0, .inr (.inr (some 147))), (1, .inl (nI R))], [.inl (0 : Int32), .inl (0 : Int32), .inl (nI v), .inr (.inr (some 147))], Hsa)) (C := []) rfl trivial ?_
    refine mw_cV (fun _ => rfl) (show mu_is Hsa (some 147) 2 from (ua.1.1.is rfl)) (gr_set (d := (d + 1)) (C := C) (r := v) (c := 0) (v := (0 : Int32)) ua da (by rw [(show (Va.2.2.1 147 10).1 = (V2.2.2.1 147 10).1 from ((zza.n 147 10 rfl).trans ((z5.n 147 10 rfl).trans ((z4.n 147 10 rfl).trans (z3.n 147 10 rfl)))))]; omega) (by rw [(show (Va.2.2.1 147 10).1 = (V2.2.2.1 147 10).1 from ((zza.n 147 10 rfl).trans ((z5.n 147 10 rfl).trans ((z4.n 147 10 rfl).trans (z3.n 147 10 rfl)))))]; omega)) (fun Q8 q8 => ?_)
    obtain ⟨u8, r8, d8⟩ := q8
    have ht8 : ur m C H Q8 := hta.trans r8
    have qf8 : uq F337 U (upA Va 147 10 (v * 7 + 0) (0 : Int32)) := qfa.A rfl
    refine mw_go mu_g337 (k := 1) (f1 := (109, [(2, .inl ((nI v) + 1)), (0, .inr (.inr (some 147))), (1, .inl (nI R))], [], Q8)) (C := []) rfl trivial ?_
    rw [(show ((nI v) + 1) = (nI (v + 1)) from (nI_add v 1))]
    refine mw_go mu_g337 (k := 1) (f1 := (92, [(2, .inl (nI (v + 1))), (0, .inr (.inr (some 147))), (1, .inl (nI R))], [], Q8)) (C := []) rfl trivial ?_
    exact mw_sub (by simp) (iha (v + 1, Q8) ⟨u8, ht8, (show uq F337a (upI V5 147 15 (-1 : Int32)) (ud m Q8) from by rw [d8]; exact (zza.A rfl)), (show (v + 1) ≤ R + 2 from (by omega)), (show ∀ r, r < (v + 1) → ((ud m Q8).2.2.1 147 10).2 (r * 7 + 0) = 0 from by rw [d8]; exact (fun r hr => by show (if r * 7 + 0 = v * 7 + 0 then (0 : Int32) else (Va.2.2.1 147 10).2 (r * 7 + 0)) = 0; by_cases e : r = v; (rw [if_pos (by rw [e])]); (rw [if_neg (by omega)]; exact hna r (by omega))))⟩ (by show R + 2 - (v + 1) < R + 2 - v; omega))
  · -- 112: not (nI v) < (nI (R + 2))
    have nh7 : ¬ v < (R + 2) := fun z => h7 (show nI v < nI (R + 2) from (nI_ltI (by omega) (by omega)).mpr z)
    refine mw_go mu_g337 (k := 2) (f1 := (114, [(2, .inl (0 : Int32)), (0, .inr (.inr (some 147))), (1, .inl (nI R))], [], Hsa)) (C := []) rfl trivial ?_
    show mu_W _ _ (114, [(2, .inl (nI 0)), (0, .inr (.inr (some 147))), (1, .inl (nI R))], [], Hsa) _
    refine mw_sub (L' := [(2, .inl (nI 0)), (0, .inr (.inr (some 147))), (1, .inl (nI R))]) (by simp) ?_
    refine mw_down (α := Nat × mu_H) (fun zs => (114, [(2, .inl (nI zs.1)), (0, .inr (.inr (some 147))), (1, .inl (nI R))], [], zs.2)) (fun zs => T - zs.1) (fun zs => um m zs.2 ∧ ur m C H zs.2 ∧ (uq F337b Va (ud m zs.2)) ∧ (zs.1 ≤ T) ∧ (∀ r, r < R + 2 → ((ud m zs.2).2.2.1 147 10).2 (r * 7 + 0) = nI (if r < 2 then 0 else czz rx (r - 2) zs.1))) (fun zs hzb ihb => ?_) (0, Hsa) ⟨ua, hta, (show uq F337b Va (ud m Hsa) from by rw [da]; exact uq.refl _ _), (show 0 ≤ T from (by omega)), (show ∀ r, r < R + 2 → ((ud m Hsa).2.2.1 147 10).2 (r * 7 + 0) = nI (if r < 2 then 0 else czz rx (r - 2) 0) from by rw [da]; exact (fun r hr => by rw [hna r (by omega)]; by_cases e : r < 2; (rw [if_pos e]; rfl); (rw [if_neg e]; rfl)))⟩
    obtain ⟨x, Hsb⟩ := zs
    obtain ⟨ub, htb, db, hx, hnb⟩ := hzb
    have ub : um m Hsb := ub
    have htb : ur m C H Hsb := htb
    have zzb : uq F337b Va (ud m Hsb) := db
    have hx : x ≤ T := hx
    have hnb : ∀ r, r < R + 2 → ((ud m Hsb).2.2.1 147 10).2 (r * 7 + 0) = nI (if r < 2 then 0 else czz rx (r - 2) x) := hnb
    obtain ⟨Vb, db⟩ : ∃ V, ud m Hsb = V := ⟨_, rfl⟩
    rw [db] at zzb hnb
    have qfb : uq F337 U Vb := qfa.tr zzb rfl
    show mu_W _ _ (114, [(2, .inl (nI x)), (0, .inr (.inr (some 147))), (1, .inl (nI R))], [], Hsb) _
    refine mw_go mu_g337 (k := 3) (f1 := (119, [(2, .inl (nI x)), (0, .inr (.inr (some 147))), (1, .inl (nI R))], [.inr (.inr (mu_r Hsb 147 0)), .inl (nI x)], Hsb)) (C := [mu_is Hsb (some 147) 2]) rfl (show mu_is Hsb (some 147) 2 from (ub.1.1.is rfl)) ?_
    rw [(ub.1.1.r (p := 147) (j := 0) (q := 99) rfl)]
    refine mw_go mu_g337 (k := 1) (f1 := (122, [(2, .inl (nI x)), (0, .inr (.inr (some 147))), (1, .inl (nI R))], [.inl (mu_i Hsb 99 11), .inl (nI x)], Hsb)) (C := [mu_is Hsb (some 99) 13]) rfl (show mu_is Hsb (some 99) 13 from (ub.1.1.is rfl)) ?_
    rw [(show mu_i Hsb 99 11 = (nI (pd f 0 P)) from (ud_i (U := Vb) (m := m) (P := 99) (j := 11) db rfl).trans ((zzb.i 99 11 rfl).trans ((zza.i 99 11 rfl).trans ((z5.i 99 11 rfl).trans ((z4.i 99 11 rfl).trans ((z3.i 99 11 rfl).trans ((z2.i 99 11 rfl).trans s11)))))))]
    refine mw_if (P := (nI x) < (nI (pd f 0 P))) (a := 125) (b := 157) (fun _ => rfl) trivial (fun h9 => ?_) (fun h9 => ?_)
    · -- 125: (nI x) < (nI (pd f 0 P))
      have nh9 : x < (pd f 0 P) := (nI_ltI (by omega) (by omega)).mp (show nI x < nI (pd f 0 P) from h9)
      have hrwk := (hrw x (by omega)).2
      have hcx : (if rx x + 2 < 2 then 0 else czz rx (rx x + 2 - 2) x) ≤ x := by rw [if_neg (by omega)]; exact czz_le x
      refine mw_go mu_g337 (k := 2) (f1 := (129, [(2, .inl (nI x)), (0, .inr (.inr (some 147))), (1, .inl (nI R))], [.inr (.inr (mu_r Hsb 147 1))], Hsb)) (C := [mu_is Hsb (some 147) 2]) rfl (show mu_is Hsb (some 147) 2 from (ub.1.1.is rfl)) ?_
      rw [(ub.1.1.r (p := 147) (j := 1) (q := 129) rfl)]
      refine mw_go mu_g337 (k := 1) (f1 := (132, [(2, .inl (nI x)), (0, .inr (.inr (some 147))), (1, .inl (nI R))], [.inr (.inr (mu_r Hsb 129 6))], Hsb)) (C := [mu_is Hsb (some 129) 9]) rfl (show mu_is Hsb (some 129) 9 from (ub.1.1.is rfl)) ?_
      rw [(show mu_r Hsb 129 6 = (U.2.2.2.1 129 6) from (ud_q (U := Vb) (m := m) (P := 129) (j := 6) db rfl).trans ((zzb.r 129 6 rfl).trans ((zza.r 129 6 rfl).trans ((z5.r 129 6 rfl).trans ((z4.r 129 6 rfl).trans ((z3.r 129 6 rfl).trans (z2.r 129 6 rfl)))))))]
      refine mw_go mu_g337 (k := 2) (f1 := (134, [(2, .inl (nI x)), (0, .inr (.inr (some 147))), (1, .inl (nI R))], [.inl (mu_i Hsb (mu_p (U.2.2.2.1 129 6)) (nI x).toNatClampNeg)], Hsb)) (C := [mu_isr Hsb (U.2.2.2.1 129 6) 100, vp_in (nI x) (mu_n Hsb (mu_p (U.2.2.2.1 129 6)))]) rfl (show (mu_isr Hsb (U.2.2.2.1 129 6) 100) ∧ (vp_in (nI x) (mu_n Hsb (mu_p (U.2.2.2.1 129 6)))) from ⟨((ub.iA db rfl rfl (show Vb.2.2.2.1 129 6 = (U.2.2.2.1 129 6) from ((zzb.r 129 6 rfl).trans ((zza.r 129 6 rfl).trans ((z5.r 129 6 rfl).trans ((z4.r 129 6 rfl).trans ((z3.r 129 6 rfl).trans (z2.r 129 6 rfl))))))))).r, (ub.vA (i := x) db rfl rfl (show Vb.2.2.2.1 129 6 = (U.2.2.2.1 129 6) from ((zzb.r 129 6 rfl).trans ((zza.r 129 6 rfl).trans ((z5.r 129 6 rfl).trans ((z4.r 129 6 rfl).trans ((z3.r 129 6 rfl).trans (z2.r 129 6 rfl))))))) (show (Vb.2.2.1 129 6).1 = (U.2.2.1 129 6).1 from ((zzb.n 129 6 rfl).trans ((zza.n 129 6 rfl).trans ((z5.n 129 6 rfl).trans ((z4.n 129 6 rfl).trans ((z3.n 129 6 rfl).trans (z2.n 129 6 rfl))))))) (by omega) (by omega))⟩) ?_
      rw [(show (mu_i Hsb (mu_p (U.2.2.2.1 129 6)) (nI x).toNatClampNeg) = (nI (rx x)) from ((congrArg (mu_i Hsb (mu_p (U.2.2.2.1 129 6))) (show (nI x).toNatClampNeg = x from nI_clamp (by omega))).trans (ub.gA db rfl rfl (show Vb.2.2.2.1 129 6 = (U.2.2.2.1 129 6) from ((zzb.r 129 6 rfl).trans ((zza.r 129 6 rfl).trans ((z5.r 129 6 rfl).trans ((z4.r 129 6 rfl).trans ((z3.r 129 6 rfl).trans (z2.r 129 6 rfl))))))))).trans ((congrArg (fun z => z.2 x) (show Vb.2.2.1 129 6 = (U.2.2.1 129 6) from ((zzb.a 129 6 rfl).trans ((zza.a 129 6 rfl).trans ((z5.a 129 6 rfl).trans ((z4.a 129 6 rfl).trans ((z3.a 129 6 rfl).trans (z2.a 129 6 rfl)))))))).trans (hrw x (by omega)).1))]
      refine mw_go mu_g337 (k := 2) (f1 := (136, [(2, .inl (nI x)), (0, .inr (.inr (some 147))), (1, .inl (nI R))], [.inl ((nI (rx x)) + (2 : Int32))], Hsb)) (C := []) rfl trivial ?_
      rw [(show ((nI (rx x)) + (2 : Int32)) = (nI ((rx x) + 2)) from (nI_add (rx x) 2))]
      refine mw_go mu_g337 (k := 7) (f1 := (143, [(3, .inl (nI ((rx x) + 2))), (2, .inl (nI x)), (0, .inr (.inr (some 147))), (1, .inl (nI R))], [.inl (0 : Int32), .inl (nI ((rx x) + 2)), .inr (.inr (some 147)), .inl (0 : Int32), .inl (nI ((rx x) + 2)), .inr (.inr (some 147))], Hsb)) (C := []) rfl trivial ?_
      refine mw_cIe (fun _ => rfl) (show mu_is Hsb (some 147) 2 from (ub.1.1.is rfl)) (gr_node (d := (d + 1)) (r := (rx x) + 2) (c := 0) ub db (by rw [(show (Vb.2.2.1 147 10).1 = (V2.2.2.1 147 10).1 from ((zzb.n 147 10 rfl).trans ((zza.n 147 10 rfl).trans ((z5.n 147 10 rfl).trans ((z4.n 147 10 rfl).trans (z3.n 147 10 rfl))))))]; omega) (by rw [(show (Vb.2.2.1 147 10).1 = (V2.2.2.1 147 10).1 from ((zzb.n 147 10 rfl).trans ((zza.n 147 10 rfl).trans ((z5.n 147 10 rfl).trans ((z4.n 147 10 rfl).trans (z3.n 147 10 rfl))))))]; omega)) ?_
      rw [show (Vb.2.2.1 147 10).2 (((rx x) + 2) * 7 + 0) = (nI (if rx x + 2 < 2 then 0 else czz rx (rx x + 2 - 2) x)) from (hnb (rx x + 2) (by omega))]
      refine mw_go mu_g337 (k := 2) (f1 := (148, [(3, .inl (nI ((rx x) + 2))), (2, .inl (nI x)), (0, .inr (.inr (some 147))), (1, .inl (nI R))], [.inl ((nI (if rx x + 2 < 2 then 0 else czz rx (rx x + 2 - 2) x)) + (1 : Int32)), .inl (0 : Int32), .inl (nI ((rx x) + 2)), .inr (.inr (some 147))], Hsb)) (C := []) rfl trivial ?_
      rw [(show ((nI (if rx x + 2 < 2 then 0 else czz rx (rx x + 2 - 2) x)) + (1 : Int32)) = (nI ((if rx x + 2 < 2 then 0 else czz rx (rx x + 2 - 2) x) + 1)) from (nI_add (if rx x + 2 < 2 then 0 else czz rx (rx x + 2 - 2) x) 1))]
      refine mw_cV (fun _ => rfl) (show mu_is Hsb (some 147) 2 from (ub.1.1.is rfl)) (gr_set (d := (d + 1)) (C := C) (r := (rx x) + 2) (c := 0) (v := (nI ((if rx x + 2 < 2 then 0 else czz rx (rx x + 2 - 2) x) + 1))) ub db (by rw [(show (Vb.2.2.1 147 10).1 = (V2.2.2.1 147 10).1 from ((zzb.n 147 10 rfl).trans ((zza.n 147 10 rfl).trans ((z5.n 147 10 rfl).trans ((z4.n 147 10 rfl).trans (z3.n 147 10 rfl))))))]; omega) (by rw [(show (Vb.2.2.1 147 10).1 = (V2.2.2.1 147 10).1 from ((zzb.n 147 10 rfl).trans ((zza.n 147 10 rfl).trans ((z5.n 147 10 rfl).trans ((z4.n 147 10 rfl).trans (z3.n 147 10 rfl))))))]; omega)) (fun Q11 q11 => ?_)
      obtain ⟨u11, r11, d11⟩ := q11
      have ht11 : ur m C H Q11 := htb.trans r11
      have qf11 : uq F337 U (upA Vb 147 10 (((rx x) + 2) * 7 + 0) (nI ((if rx x + 2 < 2 then 0 else czz rx (rx x + 2 - 2) x) + 1))) := qfb.A rfl
      refine mw_go mu_g337 (k := 1) (f1 := (154, [(2, .inl ((nI x) + 1)), (3, .inl (nI ((rx x) + 2))), (0, .inr (.inr (some 147))), (1, .inl (nI R))], [], Q11)) (C := []) rfl trivial ?_
      rw [(show ((nI x) + 1) = (nI (x + 1)) from (nI_add x 1))]
      refine mw_go mu_g337 (k := 1) (f1 := (114, [(2, .inl (nI (x + 1))), (3, .inl (nI ((rx x) + 2))), (0, .inr (.inr (some 147))), (1, .inl (nI R))], [], Q11)) (C := []) rfl trivial ?_
      exact mw_sub (by simp) (ihb (x + 1, Q11) ⟨u11, ht11, (show uq F337b Va (ud m Q11) from by rw [d11]; exact (zzb.A rfl)), (show (x + 1) ≤ T from (by omega)), (show ∀ r, r < R + 2 → ((ud m Q11).2.2.1 147 10).2 (r * 7 + 0) = nI (if r < 2 then 0 else czz rx (r - 2) (x + 1)) from by rw [d11]; exact (fun r hr => by show (if r * 7 + 0 = (rx x + 2) * 7 + 0 then nI ((if rx x + 2 < 2 then 0 else czz rx (rx x + 2 - 2) x) + 1) else (Vb.2.2.1 147 10).2 (r * 7 + 0)) = _; by_cases e : r = rx x + 2; (rw [if_pos (by rw [e]), e, if_neg (by omega), if_neg (by omega), show rx x + 2 - 2 = rx x by omega, czz_at rfl]); (rw [if_neg (by omega), hnb r hr]; by_cases e2 : r < 2; (rw [if_pos e2, if_pos e2]); (rw [if_neg e2, if_neg e2, czz_ne (by omega)]))))⟩ (by show T - (x + 1) < T - x; omega))
    · -- 157: not (nI x) < (nI (pd f 0 P))
      have nh9 : ¬ x < (pd f 0 P) := fun z => h9 (show nI x < nI (pd f 0 P) from (nI_ltI (by omega) (by omega)).mpr z)
      refine mw_go mu_g337 (k := 2) (f1 := (159, [(2, .inl (2 : Int32)), (0, .inr (.inr (some 147))), (1, .inl (nI R))], [], Hsb)) (C := []) rfl trivial ?_
      show mu_W _ _ (159, [(2, .inl (nI 2)), (0, .inr (.inr (some 147))), (1, .inl (nI R))], [], Hsb) _
      refine mw_sub (L' := [(2, .inl (nI 2)), (0, .inr (.inr (some 147))), (1, .inl (nI R))]) (by simp) ?_
      refine mw_down (α := Nat × mu_H) (fun zs => (159, [(2, .inl (nI zs.1)), (0, .inr (.inr (some 147))), (1, .inl (nI R))], [], zs.2)) (fun zs => R + 1 - zs.1) (fun zs => um m zs.2 ∧ ur m C H zs.2 ∧ (uq F337c Vb (ud m zs.2)) ∧ (2 ≤ zs.1 ∧ (zs.1 ≤ R + 1 ∨ zs.1 = 2)) ∧ (∀ r, r < R + 2 → ((ud m zs.2).2.2.1 147 10).2 (r * 7 + 0) = nI (if r < 2 then 0 else if r < zs.1 then pzz rx (r - 1) T else czz rx (r - 2) T))) (fun zs hzc ihc => ?_) (2, Hsb) ⟨ub, htb, (show uq F337c Vb (ud m Hsb) from by rw [db]; exact uq.refl _ _), (show 2 ≤ 2 ∧ (2 ≤ R + 1 ∨ 2 = 2) from (by omega)), (show ∀ r, r < R + 2 → ((ud m Hsb).2.2.1 147 10).2 (r * 7 + 0) = nI (if r < 2 then 0 else if r < 2 then pzz rx (r - 1) T else czz rx (r - 2) T) from by rw [db]; exact (fun r hr => by rw [hnb r hr, show x = T by omega]; by_cases e : r < 2; (rw [if_pos e, if_pos e]); (rw [if_neg e, if_neg e, if_neg e])))⟩
      obtain ⟨y, Hsc⟩ := zs
      obtain ⟨uc, htc, dc, hy, hnc⟩ := hzc
      have uc : um m Hsc := uc
      have htc : ur m C H Hsc := htc
      have zzc : uq F337c Vb (ud m Hsc) := dc
      have hy : 2 ≤ y ∧ (y ≤ R + 1 ∨ y = 2) := hy
      have hnc : ∀ r, r < R + 2 → ((ud m Hsc).2.2.1 147 10).2 (r * 7 + 0) = nI (if r < 2 then 0 else if r < y then pzz rx (r - 1) T else czz rx (r - 2) T) := hnc
      obtain ⟨Vc, dc⟩ : ∃ V, ud m Hsc = V := ⟨_, rfl⟩
      rw [dc] at zzc hnc
      have qfc : uq F337 U Vc := qfb.tr zzc rfl
      show mu_W _ _ (159, [(2, .inl (nI y)), (0, .inr (.inr (some 147))), (1, .inl (nI R))], [], Hsc) _
      refine mw_go mu_g337 (k := 2) (f1 := (161, [(2, .inl (nI y)), (0, .inr (.inr (some 147))), (1, .inl (nI R))], [.inl (nI R), .inl (nI y)], Hsc)) (C := []) rfl trivial ?_
      refine mw_if (P := (nI R) < (nI y)) (a := 191) (b := 164) (fun _ => rfl) trivial (fun h12 => ?_) (fun h12 => ?_)
      · -- 191: (nI R) < (nI y)
        have nh12 : R < y := (nI_ltI (by omega) (by omega)).mp (show nI R < nI y from h12)
        refine mw_go mu_g337 (k := 2) (f1 := (193, [(2, .inl (0 : Int32)), (0, .inr (.inr (some 147))), (1, .inl (nI R))], [], Hsc)) (C := []) rfl trivial ?_
        show mu_W _ _ (193, [(2, .inl (nI 0)), (0, .inr (.inr (some 147))), (1, .inl (nI R))], [], Hsc) _
        refine mw_sub (L' := [(2, .inl (nI 0)), (0, .inr (.inr (some 147))), (1, .inl (nI R))]) (by simp) ?_
        refine mw_down (α := Nat × mu_H) (fun zs => (193, [(2, .inl (nI zs.1)), (0, .inr (.inr (some 147))), (1, .inl (nI R))], [], zs.2)) (fun zs => T - zs.1) (fun zs => um m zs.2 ∧ ur m C H zs.2 ∧ (uq F337j Vc (ud m zs.2)) ∧ (zs.1 ≤ T) ∧ (∀ r, r < R + 1 → ((ud m zs.2).2.2.1 147 10).2 (r * 7 + 0) = nI (if r = 0 then 0 else pzz rx (r - 1) T + czz rx (r - 1) zs.1)) ∧ (∀ s, s < zs.1 → ((ud m zs.2).2.2.1 147 11).2 (psz rx T s) = nI s)) (fun zs hzj ihj => ?_) (0, Hsc) ⟨uc, htc, (show uq F337j Vc (ud m Hsc) from by rw [dc]; exact uq.refl _ _), (show 0 ≤ T from (by omega)), (show ∀ r, r < R + 1 → ((ud m Hsc).2.2.1 147 10).2 (r * 7 + 0) = nI (if r = 0 then 0 else pzz rx (r - 1) T + czz rx (r - 1) 0) from by rw [dc]; exact (fun r hr => by rw [hnc r (by omega)]; by_cases e : r = 0; (rw [if_pos e, if_pos (by omega)]); (rw [if_neg e]; by_cases e2 : r < 2; (rw [if_pos e2, show r - 1 = 0 by omega, pzz_0]; rfl); (rw [if_neg e2, if_pos (by omega)]; rfl)))), (show ∀ s, s < 0 → ((ud m Hsc).2.2.1 147 11).2 (psz rx T s) = nI s from by rw [dc]; exact (fun s hs => absurd hs (Nat.not_lt_zero s)))⟩
        obtain ⟨w, Hsj⟩ := zs
        obtain ⟨uj, htj, dj, hw, hnd, hmb⟩ := hzj
        have uj : um m Hsj := uj
        have htj : ur m C H Hsj := htj
        have zzj : uq F337j Vc (ud m Hsj) := dj
        have hw : w ≤ T := hw
        have hnd : ∀ r, r < R + 1 → ((ud m Hsj).2.2.1 147 10).2 (r * 7 + 0) = nI (if r = 0 then 0 else pzz rx (r - 1) T + czz rx (r - 1) w) := hnd
        have hmb : ∀ s, s < w → ((ud m Hsj).2.2.1 147 11).2 (psz rx T s) = nI s := hmb
        obtain ⟨Vj, dj⟩ : ∃ V, ud m Hsj = V := ⟨_, rfl⟩
        rw [dj] at zzj hnd hmb
        have qfj : uq F337 U Vj := qfc.tr zzj rfl
        show mu_W _ _ (193, [(2, .inl (nI w)), (0, .inr (.inr (some 147))), (1, .inl (nI R))], [], Hsj) _
        refine mw_go mu_g337 (k := 3) (f1 := (198, [(2, .inl (nI w)), (0, .inr (.inr (some 147))), (1, .inl (nI R))], [.inr (.inr (mu_r Hsj 147 0)), .inl (nI w)], Hsj)) (C := [mu_is Hsj (some 147) 2]) rfl (show mu_is Hsj (some 147) 2 from (uj.1.1.is rfl)) ?_
        rw [(uj.1.1.r (p := 147) (j := 0) (q := 99) rfl)]
        refine mw_go mu_g337 (k := 1) (f1 := (201, [(2, .inl (nI w)), (0, .inr (.inr (some 147))), (1, .inl (nI R))], [.inl (mu_i Hsj 99 11), .inl (nI w)], Hsj)) (C := [mu_is Hsj (some 99) 13]) rfl (show mu_is Hsj (some 99) 13 from (uj.1.1.is rfl)) ?_
        rw [(show mu_i Hsj 99 11 = (nI (pd f 0 P)) from (ud_i (U := Vj) (m := m) (P := 99) (j := 11) dj rfl).trans ((zzj.i 99 11 rfl).trans ((zzc.i 99 11 rfl).trans ((zzb.i 99 11 rfl).trans ((zza.i 99 11 rfl).trans ((z5.i 99 11 rfl).trans ((z4.i 99 11 rfl).trans ((z3.i 99 11 rfl).trans ((z2.i 99 11 rfl).trans s11)))))))))]
        refine mw_if (P := (nI w) < (nI (pd f 0 P))) (a := 204) (b := 248) (fun _ => rfl) trivial (fun h13 => ?_) (fun h13 => ?_)
        · -- 204: (nI w) < (nI (pd f 0 P))
          have nh13 : w < (pd f 0 P) := (nI_ltI (by omega) (by omega)).mp (show nI w < nI (pd f 0 P) from h13)
          have hrwk := (hrw w (by omega)).2
          have hpw : (if rx w + 1 = 0 then 0 else pzz rx (rx w + 1 - 1) T + czz rx (rx w + 1 - 1) w) = psz rx T w := by rw [if_neg (by omega)]; rfl
          have hpl := psz_lt (rx := rx) (show w < T by omega)
          refine mw_go mu_g337 (k := 2) (f1 := (208, [(2, .inl (nI w)), (0, .inr (.inr (some 147))), (1, .inl (nI R))], [.inr (.inr (mu_r Hsj 147 1))], Hsj)) (C := [mu_is Hsj (some 147) 2]) rfl (show mu_is Hsj (some 147) 2 from (uj.1.1.is rfl)) ?_
          rw [(uj.1.1.r (p := 147) (j := 1) (q := 129) rfl)]
          refine mw_go mu_g337 (k := 1) (f1 := (211, [(2, .inl (nI w)), (0, .inr (.inr (some 147))), (1, .inl (nI R))], [.inr (.inr (mu_r Hsj 129 6))], Hsj)) (C := [mu_is Hsj (some 129) 9]) rfl (show mu_is Hsj (some 129) 9 from (uj.1.1.is rfl)) ?_
          rw [(show mu_r Hsj 129 6 = (U.2.2.2.1 129 6) from (ud_q (U := Vj) (m := m) (P := 129) (j := 6) dj rfl).trans ((zzj.r 129 6 rfl).trans ((zzc.r 129 6 rfl).trans ((zzb.r 129 6 rfl).trans ((zza.r 129 6 rfl).trans ((z5.r 129 6 rfl).trans ((z4.r 129 6 rfl).trans ((z3.r 129 6 rfl).trans (z2.r 129 6 rfl)))))))))]
          refine mw_go mu_g337 (k := 2) (f1 := (213, [(2, .inl (nI w)), (0, .inr (.inr (some 147))), (1, .inl (nI R))], [.inl (mu_i Hsj (mu_p (U.2.2.2.1 129 6)) (nI w).toNatClampNeg)], Hsj)) (C := [mu_isr Hsj (U.2.2.2.1 129 6) 100, vp_in (nI w) (mu_n Hsj (mu_p (U.2.2.2.1 129 6)))]) rfl (show (mu_isr Hsj (U.2.2.2.1 129 6) 100) ∧ (vp_in (nI w) (mu_n Hsj (mu_p (U.2.2.2.1 129 6)))) from ⟨((uj.iA dj rfl rfl (show Vj.2.2.2.1 129 6 = (U.2.2.2.1 129 6) from ((zzj.r 129 6 rfl).trans ((zzc.r 129 6 rfl).trans ((zzb.r 129 6 rfl).trans ((zza.r 129 6 rfl).trans ((z5.r 129 6 rfl).trans ((z4.r 129 6 rfl).trans ((z3.r 129 6 rfl).trans (z2.r 129 6 rfl))))))))))).r, (uj.vA (i := w) dj rfl rfl (show Vj.2.2.2.1 129 6 = (U.2.2.2.1 129 6) from ((zzj.r 129 6 rfl).trans ((zzc.r 129 6 rfl).trans ((zzb.r 129 6 rfl).trans ((zza.r 129 6 rfl).trans ((z5.r 129 6 rfl).trans ((z4.r 129 6 rfl).trans ((z3.r 129 6 rfl).trans (z2.r 129 6 rfl))))))))) (show (Vj.2.2.1 129 6).1 = (U.2.2.1 129 6).1 from ((zzj.n 129 6 rfl).trans ((zzc.n 129 6 rfl).trans ((zzb.n 129 6 rfl).trans ((zza.n 129 6 rfl).trans ((z5.n 129 6 rfl).trans ((z4.n 129 6 rfl).trans ((z3.n 129 6 rfl).trans (z2.n 129 6 rfl))))))))) (by omega) (by omega))⟩) ?_
          rw [(show (mu_i Hsj (mu_p (U.2.2.2.1 129 6)) (nI w).toNatClampNeg) = (nI (rx w)) from ((congrArg (mu_i Hsj (mu_p (U.2.2.2.1 129 6))) (show (nI w).toNatClampNeg = w from nI_clamp (by omega))).trans (uj.gA dj rfl rfl (show Vj.2.2.2.1 129 6 = (U.2.2.2.1 129 6) from ((zzj.r 129 6 rfl).trans ((zzc.r 129 6 rfl).trans ((zzb.r 129 6 rfl).trans ((zza.r 129 6 rfl).trans ((z5.r 129 6 rfl).trans ((z4.r 129 6 rfl).trans ((z3.r 129 6 rfl).trans (z2.r 129 6 rfl))))))))))).trans ((congrArg (fun z => z.2 w) (show Vj.2.2.1 129 6 = (U.2.2.1 129 6) from ((zzj.a 129 6 rfl).trans ((zzc.a 129 6 rfl).trans ((zzb.a 129 6 rfl).trans ((zza.a 129 6 rfl).trans ((z5.a 129 6 rfl).trans ((z4.a 129 6 rfl).trans ((z3.a 129 6 rfl).trans (z2.a 129 6 rfl)))))))))).trans (hrw w (by omega)).1))]
          refine mw_go mu_g337 (k := 2) (f1 := (215, [(2, .inl (nI w)), (0, .inr (.inr (some 147))), (1, .inl (nI R))], [.inl ((nI (rx w)) + (1 : Int32))], Hsj)) (C := []) rfl trivial ?_
          rw [(show ((nI (rx w)) + (1 : Int32)) = (nI ((rx w) + 1)) from (nI_add (rx w) 1))]
          refine mw_go mu_g337 (k := 3) (f1 := (220, [(3, .inl (nI ((rx w) + 1))), (2, .inl (nI w)), (0, .inr (.inr (some 147))), (1, .inl (nI R))], [.inr (.inr (mu_r Hsj 147 11))], Hsj)) (C := [mu_is Hsj (some 147) 2]) rfl (show mu_is Hsj (some 147) 2 from (uj.1.1.is rfl)) ?_
          rw [(show mu_r Hsj 147 11 = (V3.2.2.2.1 147 11) from (ud_q (U := Vj) (m := m) (P := 147) (j := 11) dj rfl).trans ((zzj.r 147 11 rfl).trans ((zzc.r 147 11 rfl).trans ((zzb.r 147 11 rfl).trans ((zza.r 147 11 rfl).trans ((z5.r 147 11 rfl).trans (z4.r 147 11 rfl)))))))]
          refine mw_go mu_g337 (k := 3) (f1 := (223, [(3, .inl (nI ((rx w) + 1))), (2, .inl (nI w)), (0, .inr (.inr (some 147))), (1, .inl (nI R))], [.inl (0 : Int32), .inl (nI ((rx w) + 1)), .inr (.inr (some 147)), .inr (.inr (V3.2.2.2.1 147 11))], Hsj)) (C := []) rfl trivial ?_
          refine mw_cIe (fun _ => rfl) (show mu_is Hsj (some 147) 2 from (uj.1.1.is rfl)) (gr_node (d := (d + 1)) (r := (rx w) + 1) (c := 0) uj dj (by rw [(show (Vj.2.2.1 147 10).1 = (V2.2.2.1 147 10).1 from ((zzj.n 147 10 rfl).trans ((zzc.n 147 10 rfl).trans ((zzb.n 147 10 rfl).trans ((zza.n 147 10 rfl).trans ((z5.n 147 10 rfl).trans ((z4.n 147 10 rfl).trans (z3.n 147 10 rfl))))))))]; omega) (by rw [(show (Vj.2.2.1 147 10).1 = (V2.2.2.1 147 10).1 from ((zzj.n 147 10 rfl).trans ((zzc.n 147 10 rfl).trans ((zzb.n 147 10 rfl).trans ((zza.n 147 10 rfl).trans ((z5.n 147 10 rfl).trans ((z4.n 147 10 rfl).trans (z3.n 147 10 rfl))))))))]; omega)) ?_
          rw [show (Vj.2.2.1 147 10).2 (((rx w) + 1) * 7 + 0) = (nI (if rx w + 1 = 0 then 0 else pzz rx (rx w + 1 - 1) T + czz rx (rx w + 1 - 1) w)) from (hnd (rx w + 1) (by omega))]
          refine mw_go mu_g337 (k := 2) (f1 := (228, [(3, .inl (nI ((rx w) + 1))), (2, .inl (nI w)), (0, .inr (.inr (some 147))), (1, .inl (nI R))], [], (mu_si Hsj (mu_p (V3.2.2.2.1 147 11)) (nI (if rx w + 1 = 0 then 0 else pzz rx (rx w + 1 - 1) T + czz rx (rx w + 1 - 1) w)).toNatClampNeg (nI w)))) (C := [mu_is Hsj (V3.2.2.2.1 147 11) 100, vp_in (nI (if rx w + 1 = 0 then 0 else pzz rx (rx w + 1 - 1) T + czz rx (rx w + 1 - 1) w)) (mu_n Hsj (mu_p (V3.2.2.2.1 147 11)))]) rfl (show (mu_is Hsj (V3.2.2.2.1 147 11) 100) ∧ (vp_in (nI (if rx w + 1 = 0 then 0 else pzz rx (rx w + 1 - 1) T + czz rx (rx w + 1 - 1) w)) (mu_n Hsj (mu_p (V3.2.2.2.1 147 11)))) from ⟨(uj.iA dj rfl rfl (show Vj.2.2.2.1 147 11 = (V3.2.2.2.1 147 11) from ((zzj.r 147 11 rfl).trans ((zzc.r 147 11 rfl).trans ((zzb.r 147 11 rfl).trans ((zza.r 147 11 rfl).trans ((z5.r 147 11 rfl).trans (z4.r 147 11 rfl)))))))), (uj.vA (i := if rx w + 1 = 0 then 0 else pzz rx (rx w + 1 - 1) T + czz rx (rx w + 1 - 1) w) dj rfl rfl (show Vj.2.2.2.1 147 11 = (V3.2.2.2.1 147 11) from ((zzj.r 147 11 rfl).trans ((zzc.r 147 11 rfl).trans ((zzb.r 147 11 rfl).trans ((zza.r 147 11 rfl).trans ((z5.r 147 11 rfl).trans (z4.r 147 11 rfl))))))) (show (Vj.2.2.1 147 11).1 = (V3.2.2.1 147 11).1 from ((zzj.n 147 11 rfl).trans ((zzc.n 147 11 rfl).trans ((zzb.n 147 11 rfl).trans ((zza.n 147 11 rfl).trans ((z5.n 147 11 rfl).trans (z4.n 147 11 rfl))))))) (by omega) (by omega))⟩) ?_
          rw [(show (nI (if rx w + 1 = 0 then 0 else pzz rx (rx w + 1 - 1) T + czz rx (rx w + 1 - 1) w)).toNatClampNeg = if rx w + 1 = 0 then 0 else pzz rx (rx w + 1 - 1) T + czz rx (rx w + 1 - 1) w from nI_clamp (by omega))]
          obtain ⟨u15, r15, d15⟩ : um m (mu_si Hsj (mu_p (V3.2.2.2.1 147 11)) (if rx w + 1 = 0 then 0 else pzz rx (rx w + 1 - 1) T + czz rx (rx w + 1 - 1) w) (nI w)) ∧ ur m C Hsj (mu_si Hsj (mu_p (V3.2.2.2.1 147 11)) (if rx w + 1 = 0 then 0 else pzz rx (rx w + 1 - 1) T + czz rx (rx w + 1 - 1) w) (nI w)) ∧ ud m (mu_si Hsj (mu_p (V3.2.2.2.1 147 11)) (if rx w + 1 = 0 then 0 else pzz rx (rx w + 1 - 1) T + czz rx (rx w + 1 - 1) w) (nI w)) = (upA Vj 147 11 (if rx w + 1 = 0 then 0 else pzz rx (rx w + 1 - 1) T + czz rx (rx w + 1 - 1) w) (nI w)) := uj.sA (C := C) dj rfl rfl (show Vj.2.2.2.1 147 11 = (V3.2.2.2.1 147 11) from ((zzj.r 147 11 rfl).trans ((zzc.r 147 11 rfl).trans ((zzb.r 147 11 rfl).trans ((zza.r 147 11 rfl).trans ((z5.r 147 11 rfl).trans (z4.r 147 11 rfl)))))))
          generalize (mu_si Hsj (mu_p (V3.2.2.2.1 147 11)) (if rx w + 1 = 0 then 0 else pzz rx (rx w + 1 - 1) T + czz rx (rx w + 1 - 1) w) (nI w)) = Q15 at u15 r15 d15 ⊢
          have qf15 : uq F337 U (upA Vj 147 11 (if rx w + 1 = 0 then 0 else pzz rx (rx w + 1 - 1) T + czz rx (rx w + 1 - 1) w) (nI w)) := qfj.A rfl
          have ht15 : ur m C H Q15 := htj.trans r15
          refine mw_go mu_g337 (k := 6) (f1 := (234, [(3, .inl (nI ((rx w) + 1))), (2, .inl (nI w)), (0, .inr (.inr (some 147))), (1, .inl (nI R))], [.inl (0 : Int32), .inl (nI ((rx w) + 1)), .inr (.inr (some 147)), .inl (0 : Int32), .inl (nI ((rx w) + 1)), .inr (.inr (some 147))], Q15)) (C := []) rfl trivial ?_
          refine mw_cIe (fun _ => rfl) (show mu_is Q15 (some 147) 2 from (u15.1.1.is rfl)) (gr_node (d := (d + 1)) (r := (rx w) + 1) (c := 0) u15 d15 (by rw [(show ((upA Vj 147 11 (if rx w + 1 = 0 then 0 else pzz rx (rx w + 1 - 1) T + czz rx (rx w + 1 - 1) w) (nI w)).2.2.1 147 10).1 = (V2.2.2.1 147 10).1 from ((zzj.n 147 10 rfl).trans ((zzc.n 147 10 rfl).trans ((zzb.n 147 10 rfl).trans ((zza.n 147 10 rfl).trans ((z5.n 147 10 rfl).trans ((z4.n 147 10 rfl).trans (z3.n 147 10 rfl))))))))]; omega) (by rw [(show ((upA Vj 147 11 (if rx w + 1 = 0 then 0 else pzz rx (rx w + 1 - 1) T + czz rx (rx w + 1 - 1) w) (nI w)).2.2.1 147 10).1 = (V2.2.2.1 147 10).1 from ((zzj.n 147 10 rfl).trans ((zzc.n 147 10 rfl).trans ((zzb.n 147 10 rfl).trans ((zza.n 147 10 rfl).trans ((z5.n 147 10 rfl).trans ((z4.n 147 10 rfl).trans (z3.n 147 10 rfl))))))))]; omega)) ?_
          rw [show ((upA Vj 147 11 (if rx w + 1 = 0 then 0 else pzz rx (rx w + 1 - 1) T + czz rx (rx w + 1 - 1) w) (nI w)).2.2.1 147 10).2 (((rx w) + 1) * 7 + 0) = (nI (if rx w + 1 = 0 then 0 else pzz rx (rx w + 1 - 1) T + czz rx (rx w + 1 - 1) w)) from (hnd (rx w + 1) (by omega))]
          refine mw_go mu_g337 (k := 2) (f1 := (239, [(3, .inl (nI ((rx w) + 1))), (2, .inl (nI w)), (0, .inr (.inr (some 147))), (1, .inl (nI R))], [.inl ((nI (if rx w + 1 = 0 then 0 else pzz rx (rx w + 1 - 1) T + czz rx (rx w + 1 - 1) w)) + (1 : Int32)), .inl (0 : Int32), .inl (nI ((rx w) + 1)), .inr (.inr (some 147))], Q15)) (C := []) rfl trivial ?_
          rw [(show ((nI (if rx w + 1 = 0 then 0 else pzz rx (rx w + 1 - 1) T + czz rx (rx w + 1 - 1) w)) + (1 : Int32)) = (nI ((if rx w + 1 = 0 then 0 else pzz rx (rx w + 1 - 1) T + czz rx (rx w + 1 - 1) w) + 1)) from (nI_add (if rx w + 1 = 0 then 0 else pzz rx (rx w + 1 - 1) T + czz rx (rx w + 1 - 1) w) 1))]
          refine mw_cV (fun _ => rfl) (show mu_is Q15 (some 147) 2 from (u15.1.1.is rfl)) (gr_set (d := (d + 1)) (C := C) (r := (rx w) + 1) (c := 0) (v := (nI ((if rx w + 1 = 0 then 0 else pzz rx (rx w + 1 - 1) T + czz rx (rx w + 1 - 1) w) + 1))) u15 d15 (by rw [(show ((upA Vj 147 11 (if rx w + 1 = 0 then 0 else pzz rx (rx w + 1 - 1) T + czz rx (rx w + 1 - 1) w) (nI w)).2.2.1 147 10).1 = (V2.2.2.1 147 10).1 from ((zzj.n 147 10 rfl).trans ((zzc.n 147 10 rfl).trans ((zzb.n 147 10 rfl).trans ((zza.n 147 10 rfl).trans ((z5.n 147 10 rfl).trans ((z4.n 147 10 rfl).trans (z3.n 147 10 rfl))))))))]; omega) (by rw [(show ((upA Vj 147 11 (if rx w + 1 = 0 then 0 else pzz rx (rx w + 1 - 1) T + czz rx (rx w + 1 - 1) w) (nI w)).2.2.1 147 10).1 = (V2.2.2.1 147 10).1 from ((zzj.n 147 10 rfl).trans ((zzc.n 147 10 rfl).trans ((zzb.n 147 10 rfl).trans ((zza.n 147 10 rfl).trans ((z5.n 147 10 rfl).trans ((z4.n 147 10 rfl).trans (z3.n 147 10 rfl))))))))]; omega)) (fun Q17 q17 => ?_)
          obtain ⟨u17, r17, d17⟩ := q17
          have ht17 : ur m C H Q17 := ht15.trans r17
          have qf17 : uq F337 U (upA (upA Vj 147 11 (if rx w + 1 = 0 then 0 else pzz rx (rx w + 1 - 1) T + czz rx (rx w + 1 - 1) w) (nI w)) 147 10 (((rx w) + 1) * 7 + 0) (nI ((if rx w + 1 = 0 then 0 else pzz rx (rx w + 1 - 1) T + czz rx (rx w + 1 - 1) w) + 1))) := qf15.A rfl
          refine mw_go mu_g337 (k := 1) (f1 := (245, [(2, .inl ((nI w) + 1)), (3, .inl (nI ((rx w) + 1))), (0, .inr (.inr (some 147))), (1, .inl (nI R))], [], Q17)) (C := []) rfl trivial ?_
          rw [(show ((nI w) + 1) = (nI (w + 1)) from (nI_add w 1))]
          refine mw_go mu_g337 (k := 1) (f1 := (193, [(2, .inl (nI (w + 1))), (3, .inl (nI ((rx w) + 1))), (0, .inr (.inr (some 147))), (1, .inl (nI R))], [], Q17)) (C := []) rfl trivial ?_
          exact mw_sub (by simp) (ihj (w + 1, Q17) ⟨u17, ht17, (show uq F337j Vc (ud m Q17) from by rw [d17]; exact ((zzj.A rfl).A rfl)), (show (w + 1) ≤ T from (by omega)), (show ∀ r, r < R + 1 → ((ud m Q17).2.2.1 147 10).2 (r * 7 + 0) = nI (if r = 0 then 0 else pzz rx (r - 1) T + czz rx (r - 1) (w + 1)) from by rw [d17]; exact (fun r hr => by show (if r * 7 + 0 = (rx w + 1) * 7 + 0 then nI ((if rx w + 1 = 0 then 0 else pzz rx (rx w + 1 - 1) T + czz rx (rx w + 1 - 1) w) + 1) else (Vj.2.2.1 147 10).2 (r * 7 + 0)) = _; by_cases e : r = rx w + 1; (rw [if_pos (by rw [e]), e, if_neg (by omega), if_neg (by omega), show rx w + 1 - 1 = rx w by omega, czz_at rfl]; rfl); (rw [if_neg (by omega), hnd r hr]; by_cases e2 : r = 0; (rw [if_pos e2, if_pos e2]); (rw [if_neg e2, if_neg e2, czz_ne (by omega)])))), (show ∀ s, s < (w + 1) → ((ud m Q17).2.2.1 147 11).2 (psz rx T s) = nI s from by rw [d17]; exact (fun s hs => by show (if psz rx T s = (if rx w + 1 = 0 then 0 else pzz rx (rx w + 1 - 1) T + czz rx (rx w + 1 - 1) w) then nI w else (Vj.2.2.1 147 11).2 (psz rx T s)) = nI s; by_cases e : s = w; (rw [if_pos (by rw [e]; exact hpw.symm), e]); (rw [if_neg (by rw [hpw]; exact psz_ne (by omega) (by omega) e)]; exact hmb s (by omega))))⟩ (by show T - (w + 1) < T - w; omega))
        · -- 248: not (nI w) < (nI (pd f 0 P))
          have nh13 : ¬ w < (pd f 0 P) := fun z => h13 (show nI w < nI (pd f 0 P) from (nI_ltI (by omega) (by omega)).mpr z)
          refine mw_of (fun _ => mu_ret rfl trivial ⟨Hsj, rfl, uj, htj, (by rw [dj]; exact qfj), ?_⟩)
          rw [dj]
          have hwT : w = T := by omega
          refine ⟨((zzj.i 147 15 rfl).trans ((zzc.i 147 15 rfl).trans ((zzb.i 147 15 rfl).trans (zza.i 147 15 rfl)))), ⟨by rw [(show (Vj.2.2.1 147 10).1 = (V2.2.2.1 147 10).1 from ((zzj.n 147 10 rfl).trans ((zzc.n 147 10 rfl).trans ((zzb.n 147 10 rfl).trans ((zza.n 147 10 rfl).trans ((z5.n 147 10 rfl).trans ((z4.n 147 10 rfl).trans (z3.n 147 10 rfl))))))))]; exact fl2, by rw [(show (Vj.2.2.1 147 10).1 = (V2.2.2.1 147 10).1 from ((zzj.n 147 10 rfl).trans ((zzc.n 147 10 rfl).trans ((zzb.n 147 10 rfl).trans ((zza.n 147 10 rfl).trans ((z5.n 147 10 rfl).trans ((z4.n 147 10 rfl).trans (z3.n 147 10 rfl))))))))]; exact fb2, by rw [(show (Vj.2.2.1 147 11).1 = (V3.2.2.1 147 11).1 from ((zzj.n 147 11 rfl).trans ((zzc.n 147 11 rfl).trans ((zzb.n 147 11 rfl).trans ((zza.n 147 11 rfl).trans ((z5.n 147 11 rfl).trans (z4.n 147 11 rfl)))))))]; exact fl3, by rw [(show (Vj.2.2.1 147 11).1 = (V3.2.2.1 147 11).1 from ((zzj.n 147 11 rfl).trans ((zzc.n 147 11 rfl).trans ((zzb.n 147 11 rfl).trans ((zza.n 147 11 rfl).trans ((z5.n 147 11 rfl).trans (z4.n 147 11 rfl)))))))]; exact fb3, by rw [(show (Vj.2.2.1 147 12).1 = (V4.2.2.1 147 12).1 from ((zzj.n 147 12 rfl).trans ((zzc.n 147 12 rfl).trans ((zzb.n 147 12 rfl).trans ((zza.n 147 12 rfl).trans (z5.n 147 12 rfl))))))]; exact fl4, by rw [(show (Vj.2.2.1 147 12).1 = (V4.2.2.1 147 12).1 from ((zzj.n 147 12 rfl).trans ((zzc.n 147 12 rfl).trans ((zzb.n 147 12 rfl).trans ((zza.n 147 12 rfl).trans (z5.n 147 12 rfl))))))]; exact fb4, by rw [(show (Vj.2.2.1 147 13).1 = (V5.2.2.1 147 13).1 from ((zzj.n 147 13 rfl).trans ((zzc.n 147 13 rfl).trans ((zzb.n 147 13 rfl).trans (zza.n 147 13 rfl)))))]; exact fl5, by rw [(show (Vj.2.2.1 147 13).1 = (V5.2.2.1 147 13).1 from ((zzj.n 147 13 rfl).trans ((zzc.n 147 13 rfl).trans ((zzb.n 147 13 rfl).trans (zza.n 147 13 rfl)))))]; exact fb5⟩, fun r hr => ?_, fun s hs => hmb s (by omega)⟩
          rw [hnd r hr, hwT]
          by_cases e : r = 0
          · rw [if_pos e, e, pzz_0]
          · rw [if_neg e, ← pzz_s, show r - 1 + 1 = r by omega]
      · -- 164: not (nI R) < (nI y)
        have nh12 : ¬ R < y := fun z => h12 (show nI R < nI y from (nI_ltI (by omega) (by omega)).mpr z)
        have hp1 : (if y < 2 then 0 else if y < y then pzz rx (y - 1) T else czz rx (y - 2) T) ≤ T := by rw [if_neg (by omega), if_neg (by omega)]; exact czz_le T
        have hp2 : (if y - 1 < 2 then 0 else if y - 1 < y then pzz rx (y - 1 - 1) T else czz rx (y - 1 - 2) T) ≤ T := by by_cases e : y - 1 < 2; (rw [if_pos e]; omega); (rw [if_neg e, if_pos (by omega)]; exact pzz_le T)
        refine mw_go mu_g337 (k := 6) (f1 := (170, [(2, .inl (nI y)), (0, .inr (.inr (some 147))), (1, .inl (nI R))], [.inl (0 : Int32), .inl (nI y), .inr (.inr (some 147)), .inl (0 : Int32), .inl (nI y), .inr (.inr (some 147))], Hsc)) (C := []) rfl trivial ?_
        refine mw_cIe (fun _ => rfl) (show mu_is Hsc (some 147) 2 from (uc.1.1.is rfl)) (gr_node (d := (d + 1)) (r := y) (c := 0) uc dc (by rw [(show (Vc.2.2.1 147 10).1 = (V2.2.2.1 147 10).1 from ((zzc.n 147 10 rfl).trans ((zzb.n 147 10 rfl).trans ((zza.n 147 10 rfl).trans ((z5.n 147 10 rfl).trans ((z4.n 147 10 rfl).trans (z3.n 147 10 rfl)))))))]; omega) (by rw [(show (Vc.2.2.1 147 10).1 = (V2.2.2.1 147 10).1 from ((zzc.n 147 10 rfl).trans ((zzb.n 147 10 rfl).trans ((zza.n 147 10 rfl).trans ((z5.n 147 10 rfl).trans ((z4.n 147 10 rfl).trans (z3.n 147 10 rfl)))))))]; omega)) ?_
        rw [show (Vc.2.2.1 147 10).2 (y * 7 + 0) = (nI (if y < 2 then 0 else if y < y then pzz rx (y - 1) T else czz rx (y - 2) T)) from (hnc y (by omega))]
        refine mw_go mu_g337 (k := 4) (f1 := (177, [(2, .inl (nI y)), (0, .inr (.inr (some 147))), (1, .inl (nI R))], [.inl ((nI y) - (1 : Int32)), .inr (.inr (some 147)), .inl (nI (if y < 2 then 0 else if y < y then pzz rx (y - 1) T else czz rx (y - 2) T)), .inl (0 : Int32), .inl (nI y), .inr (.inr (some 147))], Hsc)) (C := []) rfl trivial ?_
        rw [(show ((nI y) - (1 : Int32)) = (nI (y - 1)) from (nI_sub (a := y) (b := 1) (by omega)))]
        refine mw_go mu_g337 (k := 1) (f1 := (178, [(2, .inl (nI y)), (0, .inr (.inr (some 147))), (1, .inl (nI R))], [.inl (0 : Int32), .inl (nI (y - 1)), .inr (.inr (some 147)), .inl (nI (if y < 2 then 0 else if y < y then pzz rx (y - 1) T else czz rx (y - 2) T)), .inl (0 : Int32), .inl (nI y), .inr (.inr (some 147))], Hsc)) (C := []) rfl trivial ?_
        refine mw_cIe (fun _ => rfl) (show mu_is Hsc (some 147) 2 from (uc.1.1.is rfl)) (gr_node (d := (d + 1)) (r := y - 1) (c := 0) uc dc (by rw [(show (Vc.2.2.1 147 10).1 = (V2.2.2.1 147 10).1 from ((zzc.n 147 10 rfl).trans ((zzb.n 147 10 rfl).trans ((zza.n 147 10 rfl).trans ((z5.n 147 10 rfl).trans ((z4.n 147 10 rfl).trans (z3.n 147 10 rfl)))))))]; omega) (by rw [(show (Vc.2.2.1 147 10).1 = (V2.2.2.1 147 10).1 from ((zzc.n 147 10 rfl).trans ((zzb.n 147 10 rfl).trans ((zza.n 147 10 rfl).trans ((z5.n 147 10 rfl).trans ((z4.n 147 10 rfl).trans (z3.n 147 10 rfl)))))))]; omega)) ?_
        rw [show (Vc.2.2.1 147 10).2 ((y - 1) * 7 + 0) = (nI (if y - 1 < 2 then 0 else if y - 1 < y then pzz rx (y - 1 - 1) T else czz rx (y - 1 - 2) T)) from (hnc (y - 1) (by omega))]
        refine mw_go mu_g337 (k := 1) (f1 := (182, [(2, .inl (nI y)), (0, .inr (.inr (some 147))), (1, .inl (nI R))], [.inl ((nI (if y < 2 then 0 else if y < y then pzz rx (y - 1) T else czz rx (y - 2) T)) + (nI (if y - 1 < 2 then 0 else if y - 1 < y then pzz rx (y - 1 - 1) T else czz rx (y - 1 - 2) T))), .inl (0 : Int32), .inl (nI y), .inr (.inr (some 147))], Hsc)) (C := []) rfl trivial ?_
        rw [(show ((nI (if y < 2 then 0 else if y < y then pzz rx (y - 1) T else czz rx (y - 2) T)) + (nI (if y - 1 < 2 then 0 else if y - 1 < y then pzz rx (y - 1 - 1) T else czz rx (y - 1 - 2) T))) = (nI ((if y < 2 then 0 else if y < y then pzz rx (y - 1) T else czz rx (y - 2) T) + (if y - 1 < 2 then 0 else if y - 1 < y then pzz rx (y - 1 - 1) T else czz rx (y - 1 - 2) T))) from (nI_add (if y < 2 then 0 else if y < y then pzz rx (y - 1) T else czz rx (y - 2) T) (if y - 1 < 2 then 0 else if y - 1 < y then pzz rx (y - 1 - 1) T else czz rx (y - 1 - 2) T)))]
        refine mw_cV (fun _ => rfl) (show mu_is Hsc (some 147) 2 from (uc.1.1.is rfl)) (gr_set (d := (d + 1)) (C := C) (r := y) (c := 0) (v := (nI ((if y < 2 then 0 else if y < y then pzz rx (y - 1) T else czz rx (y - 2) T) + (if y - 1 < 2 then 0 else if y - 1 < y then pzz rx (y - 1 - 1) T else czz rx (y - 1 - 2) T)))) uc dc (by rw [(show (Vc.2.2.1 147 10).1 = (V2.2.2.1 147 10).1 from ((zzc.n 147 10 rfl).trans ((zzb.n 147 10 rfl).trans ((zza.n 147 10 rfl).trans ((z5.n 147 10 rfl).trans ((z4.n 147 10 rfl).trans (z3.n 147 10 rfl)))))))]; omega) (by rw [(show (Vc.2.2.1 147 10).1 = (V2.2.2.1 147 10).1 from ((zzc.n 147 10 rfl).trans ((zzb.n 147 10 rfl).trans ((zza.n 147 10 rfl).trans ((z5.n 147 10 rfl).trans ((z4.n 147 10 rfl).trans (z3.n 147 10 rfl)))))))]; omega)) (fun Q20 q20 => ?_)
        obtain ⟨u20, r20, d20⟩ := q20
        have ht20 : ur m C H Q20 := htc.trans r20
        have qf20 : uq F337 U (upA Vc 147 10 (y * 7 + 0) (nI ((if y < 2 then 0 else if y < y then pzz rx (y - 1) T else czz rx (y - 2) T) + (if y - 1 < 2 then 0 else if y - 1 < y then pzz rx (y - 1 - 1) T else czz rx (y - 1 - 2) T)))) := qfc.A rfl
        refine mw_go mu_g337 (k := 1) (f1 := (188, [(2, .inl ((nI y) + 1)), (0, .inr (.inr (some 147))), (1, .inl (nI R))], [], Q20)) (C := []) rfl trivial ?_
        rw [(show ((nI y) + 1) = (nI (y + 1)) from (nI_add y 1))]
        refine mw_go mu_g337 (k := 1) (f1 := (159, [(2, .inl (nI (y + 1))), (0, .inr (.inr (some 147))), (1, .inl (nI R))], [], Q20)) (C := []) rfl trivial ?_
        exact mw_sub (by simp) (ihc (y + 1, Q20) ⟨u20, ht20, (show uq F337c Vb (ud m Q20) from by rw [d20]; exact (zzc.A rfl)), (show 2 ≤ (y + 1) ∧ ((y + 1) ≤ R + 1 ∨ (y + 1) = 2) from (by omega)), (show ∀ r, r < R + 2 → ((ud m Q20).2.2.1 147 10).2 (r * 7 + 0) = nI (if r < 2 then 0 else if r < (y + 1) then pzz rx (r - 1) T else czz rx (r - 2) T) from by rw [d20]; exact (fun r hr => by show (if r * 7 + 0 = y * 7 + 0 then nI ((if y < 2 then 0 else if y < y then pzz rx (y - 1) T else czz rx (y - 2) T) + (if y - 1 < 2 then 0 else if y - 1 < y then pzz rx (y - 1 - 1) T else czz rx (y - 1 - 2) T)) else (Vc.2.2.1 147 10).2 (r * 7 + 0)) = _; by_cases e : r = y; (rw [if_pos (by rw [e]), e]; exact congrArg nI (pzz_row (by omega))); (rw [if_neg (by omega), hnc r hr]; by_cases e2 : r < 2; (rw [if_pos e2, if_pos e2]); (rw [if_neg e2, if_neg e2]; by_cases e3 : r < y; (rw [if_pos e3, if_pos (by omega)]); (rw [if_neg e3, if_neg (by omega)])))))⟩ (by show R + 1 - (y + 1) < R + 1 - y; omega))
end GraphBegin
