/-! PROVER: sets of parts are combined -/
/-- what reckon leaves: X the data before -/
def RCK (X V : Ud) (T R wn : Nat) (rx mb me : Nat → Nat) (RB : Nat → Nat → Prop) (nf : Nat) (FS : Nat → Nat → Bool) (ga gi gq op : Nat) : Prop := uq F322 X V ∧ GKP ga gi X V ∧ ((op = 10 ∧ V.2.1 147 14 = 1 ∧ V.2.1 147 15 = nI 0 ∧ V.2.2.2.1 147 8 = some gq ∧ LSN V ga gi gq 256 ∧ ∀ i, i < wn → V.2.2.2.2.1 153 i = rka X ga gi op i) ∨ (¬ op = 10 ∧ ∃ ev, (ev = if op = 12 then 1 else 0) ∧ SWJ V T R wn rx mb me ga gi gq RB (fun t => t < T ∧ bts (rka X ga gi op) t = true) (fun t => t < T ∧ bts (rkt X ga gi op) t = true) ev nf FS (8 * R)))
section Combine
variable {H : mu_H} {U V X : Ud} {m d o b sz jl jr sj ql qr qs at0 to0 T R wn nf sg w : Nat} {C : Nat → Nat} {rx mb me : Nat → Nat} {RB : Nat → Nat → Prop} {FS : Nat → Nat → Bool} {x y e1 : Int64}
theorem btz_xor {q : Nat} : btz (x ^^^ y) q = (btz x q ^^ btz y q) := by unfold btz; rw [Int64.toBitVec_xor, BitVec.getLsbD_xor]
theorem and_l {q : Nat} (h : btz (x &&& y) q = true) : btz x q = true := by
  rw [btz_and, Bool.and_eq_true] at h
  exact h.1
theorem and_r {q : Nat} (h : btz (x &&& y) q = true) : btz y q = true := by
  rw [btz_and, Bool.and_eq_true] at h
  exact h.2
theorem prf_sub {q : Nat} (h : btz (prf o x e1) q = true) : btz e1 q = true := and_r h
theorem prs_sub {q : Nat} (h : btz (prs o x y e1) q = true) : btz e1 q = true := by
  unfold prs at h
  by_cases c1 : o = 28
  · rw [if_pos c1] at h; exact prf_sub h
  · rw [if_neg c1] at h
    by_cases c2 : o = 29
    · rw [if_pos c2] at h; exact and_l h
    · rw [if_neg c2] at h
      by_cases c3 : o = 12 ∨ o = 14
      · rw [if_pos c3] at h; exact prf_sub h
      · rw [if_neg c3] at h; exact h
theorem pro_sub {q : Nat} (h : btz (pro o x y e1) q = true) : btz e1 q = true := by
  unfold pro at h
  by_cases c1 : o = 28
  · rw [if_pos c1] at h; exact and_r h
  · rw [if_neg c1] at h
    by_cases c2 : o = 29
    · rw [if_pos c2] at h; exact and_l (and_l h)
    · rw [if_neg c2] at h; exact prf_sub h
/-- what is reckoned lies in the STATES -/
theorem rka_sub {op s : Nat} (hw : ∀ i, i < wn → X.2.2.2.2.1 162 i = prs o (lgf U 161 jl i) (lgf U 161 jr i) (U.2.2.2.2.1 124 i) ∧ lgf X 161 sj i = pro o (lgf U 161 jl i) (lgf U 161 jr i) (U.2.2.2.2.1 124 i)) (hs : s < 64 * wn) (h : bts (rka X 161 sj op) s = true) : bts (U.2.2.2.2.1 124) s = true := by
  obtain ⟨h1, h2⟩ := hw (s / 64) (by omega)
  unfold bts at h ⊢
  unfold rka at h
  by_cases c : op = 10
  · rw [if_pos c] at h
    unfold rkt at h
    rw [if_neg (by omega)] at h
    have := and_l h
    rw [h2] at this
    exact pro_sub this
  · rw [if_neg c] at h
    have := and_l h
    rw [h1] at this
    exact prs_sub this
theorem plo_3 : plo o = 10 ∨ plo o = 12 ∨ plo o = 28 := by
  unfold plo
  by_cases c1 : o = 10 ∨ o = 13
  · rw [if_pos c1]; exact Or.inl rfl
  · rw [if_neg c1]
    by_cases c2 : o = 12 ∨ o = 14
    · rw [if_pos c2]; exact Or.inr (Or.inl rfl)
    · rw [if_neg c2]; exact Or.inr (Or.inr rfl)
def F350 : Uf := ⟨[], [(158, 4), (158, 20), (147, 9), (147, 14), (147, 15), (147, 16), (147, 20), (147, 21), (147, 22)], [], [(147, 8)], [148, 150, 151, 153, 162], true⟩
def F350j : Uf := ⟨[], [(158, 4), (158, 20)], [], [], [148, 162], true⟩
/-- PathProver$Prover.combine(III)Z -/
abbrev mu_m350 : ev_M := (6, (some .boolean), [], ev_b350)
theorem mu_g350 : mu_good mu_m350 := mu_goodk ev_k350
theorem pr_comb0 (h : um m H) (e : ud m H = U) (hz : (U.1 26).1 = sz) (hzb : sz < 2147483647) (hbz : b < sz) (hrb : (U.1 26).2 b 1 = nI jl) (hrt : (U.1 26).2 (sz - 1) 1 = nI jr) (hjl : jl < 248) (hjr : jr < 248) (hsj : sj < 248) (hll : LSN U 161 jl ql 256) (hlr : LSN U 161 jr qr 256) (hls : LSN U 161 sj qs 256) (hat : U.2.1 158 16 = nI at0) (hto : U.2.1 158 17 = nI at0) : mu_TI (mu_D (d + 6)) 350 [.inr (.inr (some 158)), .inl (nI o), .inl (nI b), .inl (nI sj)] H (fun x H1 => x = 0 ∧ um m H1 ∧ ur m C H H1 ∧ ud m H1 = upI U 158 4 (nI (sj + 1))) := by
  refine mu_meth (M := mu_m350) rfl rfl ?_
  refine mw_ht (mu_fn_of (show [0, 1, 2, 3].Nodup by decide)) ?_
  refine mw_go mu_g350 (k := 2) (f1 := (4, [(0, .inr (.inr (some 158))), (1, .inl (nI o)), (2, .inl (nI b)), (3, .inl (nI sj))], [.inr (.inr (mu_r H 158 3))], H)) (C := [mu_is H (some 158) 8]) rfl (show mu_is H (some 158) 8 from (h.1.1.is rfl)) ?_
  rw [(h.1.1.r (p := 158) (j := 3) (q := 161) rfl)]
  refine mw_go mu_g350 (k := 2) (f1 := (8, [(0, .inr (.inr (some 158))), (1, .inl (nI o)), (2, .inl (nI b)), (3, .inl (nI sj))], [.inr (.inr (mu_r H 158 2)), .inr (.inr (some 161))], H)) (C := [mu_is H (some 158) 8]) rfl (show mu_is H (some 158) 8 from (h.1.1.is rfl)) ?_
  rw [(h.1.1.r (p := 158) (j := 2) (q := 159) rfl)]
  refine mw_go mu_g350 (k := 2) (f1 := (10, [(0, .inr (.inr (some 158))), (1, .inl (nI o)), (2, .inl (nI b)), (3, .inl (nI sj))], [.inl (1 : Int32), .inl (nI b), .inr (.inr (some 159)), .inr (.inr (some 161))], H)) (C := []) rfl trivial ?_
  refine mw_cIe (fun _ => rfl) (show mu_is H (some 159) 10 from (h.1.1.is rfl)) (h.getr (d := (d + 4)) e (j := 26) (by decide) rfl (nI b) (c := 1) (by decide)) ?_
  rw [show (tget (U.1 26) (nI b) 1) = (nI jl) from ((congrArg (fun z => tget z (nI b) 1) (show U.1 26 = (U.1 26) from rfl)).trans (tget_nI (by first | omega | decide))).trans hrb]
  have ka2 : mu_r H 161 jl = some ql := (dR_pool e (Or.inl rfl) (plp161 (show jl < 248 by omega))).trans (LSN.ref (show LSN U 161 jl ql _ from hll) (Or.inl rfl))
  refine mw_go mu_g350 (k := 1) (f1 := (14, [(0, .inr (.inr (some 158))), (1, .inl (nI o)), (2, .inl (nI b)), (3, .inl (nI sj))], [.inr (.inr (mu_r H 161 (nI jl).toNatClampNeg))], H)) (C := [mu_is H (some 161) (mu_k H 161), 103 ≤ mu_k H 161 ∧ mu_k H 161 ≤ 110 ∧ mu_k H 161 ≠ 108, vp_in (nI jl) (mu_n H 161)]) rfl (show (mu_is H (some 161) (mu_k H 161)) ∧ (103 ≤ mu_k H 161 ∧ mu_k H 161 ≤ 110 ∧ mu_k H 161 ≠ 108) ∧ (vp_in (nI jl) (mu_n H 161)) from ⟨(by have z := (h.1.1.a (p := 161) (x := (104, 248)) rfl).1; rw [show mu_k H 161 = 104 from z.2.2]; exact z), (by have z := (h.1.1.a (p := 161) (x := (104, 248)) rfl).1; rw [show mu_k H 161 = 104 from z.2.2]; decide), (by rw [show mu_n H 161 = 248 from (h.1.1.a (p := 161) (x := (104, 248)) rfl).2]; exact vp_in_nI (n := jl) (by omega) (by decide))⟩) ?_
  rw [show (mu_r H 161 (nI jl).toNatClampNeg) = (some ql) from (congrArg (mu_r H 161) (show (nI jl).toNatClampNeg = jl from nI_clamp (by omega))).trans ka2]
  refine mw_go mu_g350 (k := 3) (f1 := (20, [(4, .inr (.inr (some ql))), (0, .inr (.inr (some 158))), (1, .inl (nI o)), (2, .inl (nI b)), (3, .inl (nI sj))], [.inr (.inr (mu_r H 158 3))], H)) (C := [mu_is H (some 158) 8]) rfl (show mu_is H (some 158) 8 from (h.1.1.is rfl)) ?_
  rw [(h.1.1.r (p := 158) (j := 3) (q := 161) rfl)]
  refine mw_go mu_g350 (k := 2) (f1 := (24, [(4, .inr (.inr (some ql))), (0, .inr (.inr (some 158))), (1, .inl (nI o)), (2, .inl (nI b)), (3, .inl (nI sj))], [.inr (.inr (mu_r H 158 2)), .inr (.inr (some 161))], H)) (C := [mu_is H (some 158) 8]) rfl (show mu_is H (some 158) 8 from (h.1.1.is rfl)) ?_
  rw [(h.1.1.r (p := 158) (j := 2) (q := 159) rfl)]
  refine mw_go mu_g350 (k := 2) (f1 := (28, [(4, .inr (.inr (some ql))), (0, .inr (.inr (some 158))), (1, .inl (nI o)), (2, .inl (nI b)), (3, .inl (nI sj))], [.inr (.inr (mu_r H 158 2)), .inr (.inr (some 159)), .inr (.inr (some 161))], H)) (C := [mu_is H (some 158) 8]) rfl (show mu_is H (some 158) 8 from (h.1.1.is rfl)) ?_
  rw [(h.1.1.r (p := 158) (j := 2) (q := 159) rfl)]
  refine mw_go mu_g350 (k := 1) (f1 := (31, [(4, .inr (.inr (some ql))), (0, .inr (.inr (some 158))), (1, .inl (nI o)), (2, .inl (nI b)), (3, .inl (nI sj))], [.inl (mu_i H 159 2), .inr (.inr (some 159)), .inr (.inr (some 161))], H)) (C := [mu_is H (some 159) 10]) rfl (show mu_is H (some 159) 10 from (h.1.1.is rfl)) ?_
  rw [(show mu_i H 159 2 = (nI sz) from (h.size e (j := 26) (by decide) rfl).trans (congrArg nI ((congrArg Prod.fst (show U.1 26 = (U.1 26) from rfl)).trans hz)))]
  refine mw_go mu_g350 (k := 2) (f1 := (33, [(4, .inr (.inr (some ql))), (0, .inr (.inr (some 158))), (1, .inl (nI o)), (2, .inl (nI b)), (3, .inl (nI sj))], [.inl ((nI sz) - (1 : Int32)), .inr (.inr (some 159)), .inr (.inr (some 161))], H)) (C := []) rfl trivial ?_
  rw [(show ((nI sz) - (1 : Int32)) = (nI (sz - 1)) from (nI_sub (a := sz) (b := 1) (by omega)))]
  refine mw_go mu_g350 (k := 1) (f1 := (34, [(4, .inr (.inr (some ql))), (0, .inr (.inr (some 158))), (1, .inl (nI o)), (2, .inl (nI b)), (3, .inl (nI sj))], [.inl (1 : Int32), .inl (nI (sz - 1)), .inr (.inr (some 159)), .inr (.inr (some 161))], H)) (C := []) rfl trivial ?_
  refine mw_cIe (fun _ => rfl) (show mu_is H (some 159) 10 from (h.1.1.is rfl)) (h.getr (d := (d + 4)) e (j := 26) (by decide) rfl (nI (sz - 1)) (c := 1) (by decide)) ?_
  rw [show (tget (U.1 26) (nI (sz - 1)) 1) = (nI jr) from ((congrArg (fun z => tget z (nI (sz - 1)) 1) (show U.1 26 = (U.1 26) from rfl)).trans (tget_nI (by first | omega | decide))).trans hrt]
  have ka4 : mu_r H 161 jr = some qr := (dR_pool e (Or.inl rfl) (plp161 (show jr < 248 by omega))).trans (LSN.ref (show LSN U 161 jr qr _ from hlr) (Or.inl rfl))
  refine mw_go mu_g350 (k := 1) (f1 := (38, [(4, .inr (.inr (some ql))), (0, .inr (.inr (some 158))), (1, .inl (nI o)), (2, .inl (nI b)), (3, .inl (nI sj))], [.inr (.inr (mu_r H 161 (nI jr).toNatClampNeg))], H)) (C := [mu_is H (some 161) (mu_k H 161), 103 ≤ mu_k H 161 ∧ mu_k H 161 ≤ 110 ∧ mu_k H 161 ≠ 108, vp_in (nI jr) (mu_n H 161)]) rfl (show (mu_is H (some 161) (mu_k H 161)) ∧ (103 ≤ mu_k H 161 ∧ mu_k H 161 ≤ 110 ∧ mu_k H 161 ≠ 108) ∧ (vp_in (nI jr) (mu_n H 161)) from ⟨(by have z := (h.1.1.a (p := 161) (x := (104, 248)) rfl).1; rw [show mu_k H 161 = 104 from z.2.2]; exact z), (by have z := (h.1.1.a (p := 161) (x := (104, 248)) rfl).1; rw [show mu_k H 161 = 104 from z.2.2]; decide), (by rw [show mu_n H 161 = 248 from (h.1.1.a (p := 161) (x := (104, 248)) rfl).2]; exact vp_in_nI (n := jr) (by omega) (by decide))⟩) ?_
  rw [show (mu_r H 161 (nI jr).toNatClampNeg) = (some qr) from (congrArg (mu_r H 161) (show (nI jr).toNatClampNeg = jr from nI_clamp (by omega))).trans ka4]
  refine mw_go mu_g350 (k := 5) (f1 := (44, [(5, .inr (.inr (some qr))), (4, .inr (.inr (some ql))), (0, .inr (.inr (some 158))), (1, .inl (nI o)), (2, .inl (nI b)), (3, .inl (nI sj))], [.inl ((nI sj) + (1 : Int32)), .inr (.inr (some 158))], H)) (C := []) rfl trivial ?_
  rw [(show ((nI sj) + (1 : Int32)) = (nI (sj + 1)) from (nI_add sj 1))]
  refine mw_go mu_g350 (k := 1) (f1 := (47, [(5, .inr (.inr (some qr))), (4, .inr (.inr (some ql))), (0, .inr (.inr (some 158))), (1, .inl (nI o)), (2, .inl (nI b)), (3, .inl (nI sj))], [], (mu_si H 158 4 (nI (sj + 1))))) (C := [mu_is H (some 158) 8]) rfl (show mu_is H (some 158) 8 from (h.1.1.is rfl)) ?_
  obtain ⟨u5, r5, d5⟩ : um m (mu_si H 158 4 (nI (sj + 1))) ∧ ur m C H (mu_si H 158 4 (nI (sj + 1))) ∧ ud m (mu_si H 158 4 (nI (sj + 1))) = (upI U 158 4 (nI (sj + 1))) := h.sI (C := C) e rfl
  generalize (mu_si H 158 4 (nI (sj + 1))) = Q5 at u5 r5 d5 ⊢
  have qf5 : uq F350j U (upI U 158 4 (nI (sj + 1))) := (uq.refl F350j U).I rfl
  have ht5 : ur m C H Q5 := (ur.refl m C H).trans r5
  refine mw_go mu_g350 (k := 2) (f1 := (51, [(5, .inr (.inr (some qr))), (4, .inr (.inr (some ql))), (0, .inr (.inr (some 158))), (1, .inl (nI o)), (2, .inl (nI b)), (3, .inl (nI sj))], [.inl (mu_i Q5 158 16)], Q5)) (C := [mu_is Q5 (some 158) 8]) rfl (show mu_is Q5 (some 158) 8 from (u5.1.1.is rfl)) ?_
  rw [(show mu_i Q5 158 16 = (nI at0) from (ud_i (U := (upI U 158 4 (nI (sj + 1)))) (m := m) (P := 158) (j := 16) d5 rfl).trans hat)]
  refine mw_go mu_g350 (k := 2) (f1 := (55, [(5, .inr (.inr (some qr))), (4, .inr (.inr (some ql))), (0, .inr (.inr (some 158))), (1, .inl (nI o)), (2, .inl (nI b)), (3, .inl (nI sj))], [.inl (mu_i Q5 158 17), .inl (nI at0)], Q5)) (C := [mu_is Q5 (some 158) 8]) rfl (show mu_is Q5 (some 158) 8 from (u5.1.1.is rfl)) ?_
  rw [(show mu_i Q5 158 17 = (nI at0) from (ud_i (U := (upI U 158 4 (nI (sj + 1)))) (m := m) (P := 158) (j := 17) d5 rfl).trans hto)]
  refine mw_if (P := (nI at0) = (nI at0)) (a := 58) (b := 60) (fun _ => rfl) trivial (fun h6 => ?_) (fun h6 => absurd rfl h6)
  refine mw_go mu_g350 (k := 1) (f1 := (59, [(5, .inr (.inr (some qr))), (4, .inr (.inr (some ql))), (0, .inr (.inr (some 158))), (1, .inl (nI o)), (2, .inl (nI b)), (3, .inl (nI sj))], [.inl (0 : Int32)], Q5)) (C := []) rfl trivial ?_
  exact mw_of (fun _ => mu_ret rfl (Or.inl rfl) ⟨(0 : Int32), Q5, rfl, rfl, u5, ht5, d5⟩)
theorem pr_comb1 (h : um m H) (e : ud m H = U) (hz : (U.1 26).1 = sz) (hzb : sz < 2147483647) (hbz : b < sz) (hrb : (U.1 26).2 b 1 = nI jl) (hrt : (U.1 26).2 (sz - 1) 1 = nI jr) (hjl : jl < 248) (hjr : jr < 248) (hsj : sj < 248) (hll : LSN U 161 jl ql 256) (hlr : LSN U 161 jr qr 256) (hls : LSN U 161 sj qs 256) (hat : U.2.1 158 16 = nI at0) (hw12 : U.2.1 99 12 = nI wn) (hwn : wn ≤ 256) (ho34 : o ≤ 34) (hto : U.2.1 158 17 = nI to0) (hne : at0 < to0) (htb : to0 < 2147483648) (ho : 4 ≤ o ∧ o ≤ 9) : mu_TI (mu_D (d + 6)) 350 [.inr (.inr (some 158)), .inl (nI o), .inl (nI b), .inl (nI sj)] H (fun x H1 => x = 0 ∧ um m H1 ∧ ur m C H H1 ∧ uq F350j U (ud m H1) ∧ GKQ 161 sj U (ud m H1) ∧ (ud m H1).2.2.2.2.1 148 = U.2.2.2.2.1 148 ∧ (ud m H1).2.2.2.2.1 162 = U.2.2.2.2.1 162 ∧ (ud m H1).2.1 158 4 = nI (sj + 1) ∧ (ud m H1).2.1 158 20 = U.2.1 158 20 ∧ ∀ i, i < wn → lgf (ud m H1) 161 sj i = jnw o (lgf U 161 jl i) (lgf U 161 jr i))   := by
  have hnt : ¬ tmd o := fun y => by unfold tmd at y; omega
  refine mu_meth (M := mu_m350) rfl rfl ?_
  refine mw_ht (mu_fn_of (show [0, 1, 2, 3].Nodup by decide)) ?_
  refine mw_go mu_g350 (k := 2) (f1 := (4, [(0, .inr (.inr (some 158))), (1, .inl (nI o)), (2, .inl (nI b)), (3, .inl (nI sj))], [.inr (.inr (mu_r H 158 3))], H)) (C := [mu_is H (some 158) 8]) rfl (show mu_is H (some 158) 8 from (h.1.1.is rfl)) ?_
  rw [(h.1.1.r (p := 158) (j := 3) (q := 161) rfl)]
  refine mw_go mu_g350 (k := 2) (f1 := (8, [(0, .inr (.inr (some 158))), (1, .inl (nI o)), (2, .inl (nI b)), (3, .inl (nI sj))], [.inr (.inr (mu_r H 158 2)), .inr (.inr (some 161))], H)) (C := [mu_is H (some 158) 8]) rfl (show mu_is H (some 158) 8 from (h.1.1.is rfl)) ?_
  rw [(h.1.1.r (p := 158) (j := 2) (q := 159) rfl)]
  refine mw_go mu_g350 (k := 2) (f1 := (10, [(0, .inr (.inr (some 158))), (1, .inl (nI o)), (2, .inl (nI b)), (3, .inl (nI sj))], [.inl (1 : Int32), .inl (nI b), .inr (.inr (some 159)), .inr (.inr (some 161))], H)) (C := []) rfl trivial ?_
  refine mw_cIe (fun _ => rfl) (show mu_is H (some 159) 10 from (h.1.1.is rfl)) (h.getr (d := (d + 4)) e (j := 26) (by decide) rfl (nI b) (c := 1) (by decide)) ?_
  rw [show (tget (U.1 26) (nI b) 1) = (nI jl) from ((congrArg (fun z => tget z (nI b) 1) (show U.1 26 = (U.1 26) from rfl)).trans (tget_nI (by first | omega | decide))).trans hrb]
  have ka2 : mu_r H 161 jl = some ql := (dR_pool e (Or.inl rfl) (plp161 (show jl < 248 by omega))).trans (LSN.ref (show LSN U 161 jl ql _ from hll) (Or.inl rfl))
  refine mw_go mu_g350 (k := 1) (f1 := (14, [(0, .inr (.inr (some 158))), (1, .inl (nI o)), (2, .inl (nI b)), (3, .inl (nI sj))], [.inr (.inr (mu_r H 161 (nI jl).toNatClampNeg))], H)) (C := [mu_is H (some 161) (mu_k H 161), 103 ≤ mu_k H 161 ∧ mu_k H 161 ≤ 110 ∧ mu_k H 161 ≠ 108, vp_in (nI jl) (mu_n H 161)]) rfl (show (mu_is H (some 161) (mu_k H 161)) ∧ (103 ≤ mu_k H 161 ∧ mu_k H 161 ≤ 110 ∧ mu_k H 161 ≠ 108) ∧ (vp_in (nI jl) (mu_n H 161)) from ⟨(by have z := (h.1.1.a (p := 161) (x := (104, 248)) rfl).1; rw [show mu_k H 161 = 104 from z.2.2]; exact z), (by have z := (h.1.1.a (p := 161) (x := (104, 248)) rfl).1; rw [show mu_k H 161 = 104 from z.2.2]; decide), (by rw [show mu_n H 161 = 248 from (h.1.1.a (p := 161) (x := (104, 248)) rfl).2]; exact vp_in_nI (n := jl) (by omega) (by decide))⟩) ?_
  rw [show (mu_r H 161 (nI jl).toNatClampNeg) = (some ql) from (congrArg (mu_r H 161) (show (nI jl).toNatClampNeg = jl from nI_clamp (by omega))).trans ka2]
  refine mw_go mu_g350 (k := 3) (f1 := (20, [(4, .inr (.inr (some ql))), (0, .inr (.inr (some 158))), (1, .inl (nI o)), (2, .inl (nI b)), (3, .inl (nI sj))], [.inr (.inr (mu_r H 158 3))], H)) (C := [mu_is H (some 158) 8]) rfl (show mu_is H (some 158) 8 from (h.1.1.is rfl)) ?_
  rw [(h.1.1.r (p := 158) (j := 3) (q := 161) rfl)]
  refine mw_go mu_g350 (k := 2) (f1 := (24, [(4, .inr (.inr (some ql))), (0, .inr (.inr (some 158))), (1, .inl (nI o)), (2, .inl (nI b)), (3, .inl (nI sj))], [.inr (.inr (mu_r H 158 2)), .inr (.inr (some 161))], H)) (C := [mu_is H (some 158) 8]) rfl (show mu_is H (some 158) 8 from (h.1.1.is rfl)) ?_
  rw [(h.1.1.r (p := 158) (j := 2) (q := 159) rfl)]
  refine mw_go mu_g350 (k := 2) (f1 := (28, [(4, .inr (.inr (some ql))), (0, .inr (.inr (some 158))), (1, .inl (nI o)), (2, .inl (nI b)), (3, .inl (nI sj))], [.inr (.inr (mu_r H 158 2)), .inr (.inr (some 159)), .inr (.inr (some 161))], H)) (C := [mu_is H (some 158) 8]) rfl (show mu_is H (some 158) 8 from (h.1.1.is rfl)) ?_
  rw [(h.1.1.r (p := 158) (j := 2) (q := 159) rfl)]
  refine mw_go mu_g350 (k := 1) (f1 := (31, [(4, .inr (.inr (some ql))), (0, .inr (.inr (some 158))), (1, .inl (nI o)), (2, .inl (nI b)), (3, .inl (nI sj))], [.inl (mu_i H 159 2), .inr (.inr (some 159)), .inr (.inr (some 161))], H)) (C := [mu_is H (some 159) 10]) rfl (show mu_is H (some 159) 10 from (h.1.1.is rfl)) ?_
  rw [(show mu_i H 159 2 = (nI sz) from (h.size e (j := 26) (by decide) rfl).trans (congrArg nI ((congrArg Prod.fst (show U.1 26 = (U.1 26) from rfl)).trans hz)))]
  refine mw_go mu_g350 (k := 2) (f1 := (33, [(4, .inr (.inr (some ql))), (0, .inr (.inr (some 158))), (1, .inl (nI o)), (2, .inl (nI b)), (3, .inl (nI sj))], [.inl ((nI sz) - (1 : Int32)), .inr (.inr (some 159)), .inr (.inr (some 161))], H)) (C := []) rfl trivial ?_
  rw [(show ((nI sz) - (1 : Int32)) = (nI (sz - 1)) from (nI_sub (a := sz) (b := 1) (by omega)))]
  refine mw_go mu_g350 (k := 1) (f1 := (34, [(4, .inr (.inr (some ql))), (0, .inr (.inr (some 158))), (1, .inl (nI o)), (2, .inl (nI b)), (3, .inl (nI sj))], [.inl (1 : Int32), .inl (nI (sz - 1)), .inr (.inr (some 159)), .inr (.inr (some 161))], H)) (C := []) rfl trivial ?_
  refine mw_cIe (fun _ => rfl) (show mu_is H (some 159) 10 from (h.1.1.is rfl)) (h.getr (d := (d + 4)) e (j := 26) (by decide) rfl (nI (sz - 1)) (c := 1) (by decide)) ?_
  rw [show (tget (U.1 26) (nI (sz - 1)) 1) = (nI jr) from ((congrArg (fun z => tget z (nI (sz - 1)) 1) (show U.1 26 = (U.1 26) from rfl)).trans (tget_nI (by first | omega | decide))).trans hrt]
  have ka4 : mu_r H 161 jr = some qr := (dR_pool e (Or.inl rfl) (plp161 (show jr < 248 by omega))).trans (LSN.ref (show LSN U 161 jr qr _ from hlr) (Or.inl rfl))
  refine mw_go mu_g350 (k := 1) (f1 := (38, [(4, .inr (.inr (some ql))), (0, .inr (.inr (some 158))), (1, .inl (nI o)), (2, .inl (nI b)), (3, .inl (nI sj))], [.inr (.inr (mu_r H 161 (nI jr).toNatClampNeg))], H)) (C := [mu_is H (some 161) (mu_k H 161), 103 ≤ mu_k H 161 ∧ mu_k H 161 ≤ 110 ∧ mu_k H 161 ≠ 108, vp_in (nI jr) (mu_n H 161)]) rfl (show (mu_is H (some 161) (mu_k H 161)) ∧ (103 ≤ mu_k H 161 ∧ mu_k H 161 ≤ 110 ∧ mu_k H 161 ≠ 108) ∧ (vp_in (nI jr) (mu_n H 161)) from ⟨(by have z := (h.1.1.a (p := 161) (x := (104, 248)) rfl).1; rw [show mu_k H 161 = 104 from z.2.2]; exact z), (by have z := (h.1.1.a (p := 161) (x := (104, 248)) rfl).1; rw [show mu_k H 161 = 104 from z.2.2]; decide), (by rw [show mu_n H 161 = 248 from (h.1.1.a (p := 161) (x := (104, 248)) rfl).2]; exact vp_in_nI (n := jr) (by omega) (by decide))⟩) ?_
  rw [show (mu_r H 161 (nI jr).toNatClampNeg) = (some qr) from (congrArg (mu_r H 161) (show (nI jr).toNatClampNeg = jr from nI_clamp (by omega))).trans ka4]
  refine mw_go mu_g350 (k := 5) (f1 := (44, [(5, .inr (.inr (some qr))), (4, .inr (.inr (some ql))), (0, .inr (.inr (some 158))), (1, .inl (nI o)), (2, .inl (nI b)), (3, .inl (nI sj))], [.inl ((nI sj) + (1 : Int32)), .inr (.inr (some 158))], H)) (C := []) rfl trivial ?_
  rw [(show ((nI sj) + (1 : Int32)) = (nI (sj + 1)) from (nI_add sj 1))]
  refine mw_go mu_g350 (k := 1) (f1 := (47, [(5, .inr (.inr (some qr))), (4, .inr (.inr (some ql))), (0, .inr (.inr (some 158))), (1, .inl (nI o)), (2, .inl (nI b)), (3, .inl (nI sj))], [], (mu_si H 158 4 (nI (sj + 1))))) (C := [mu_is H (some 158) 8]) rfl (show mu_is H (some 158) 8 from (h.1.1.is rfl)) ?_
  obtain ⟨u5, r5, d5⟩ : um m (mu_si H 158 4 (nI (sj + 1))) ∧ ur m C H (mu_si H 158 4 (nI (sj + 1))) ∧ ud m (mu_si H 158 4 (nI (sj + 1))) = (upI U 158 4 (nI (sj + 1))) := h.sI (C := C) e rfl
  generalize (mu_si H 158 4 (nI (sj + 1))) = Q5 at u5 r5 d5 ⊢
  have qf5 : uq F350j U (upI U 158 4 (nI (sj + 1))) := (uq.refl F350j U).I rfl
  have ht5 : ur m C H Q5 := (ur.refl m C H).trans r5
  refine mw_go mu_g350 (k := 2) (f1 := (51, [(5, .inr (.inr (some qr))), (4, .inr (.inr (some ql))), (0, .inr (.inr (some 158))), (1, .inl (nI o)), (2, .inl (nI b)), (3, .inl (nI sj))], [.inl (mu_i Q5 158 16)], Q5)) (C := [mu_is Q5 (some 158) 8]) rfl (show mu_is Q5 (some 158) 8 from (u5.1.1.is rfl)) ?_
  rw [(show mu_i Q5 158 16 = (nI at0) from (ud_i (U := (upI U 158 4 (nI (sj + 1)))) (m := m) (P := 158) (j := 16) d5 rfl).trans hat)]
  refine mw_go mu_g350 (k := 2) (f1 := (55, [(5, .inr (.inr (some qr))), (4, .inr (.inr (some ql))), (0, .inr (.inr (some 158))), (1, .inl (nI o)), (2, .inl (nI b)), (3, .inl (nI sj))], [.inl (mu_i Q5 158 17), .inl (nI at0)], Q5)) (C := [mu_is Q5 (some 158) 8]) rfl (show mu_is Q5 (some 158) 8 from (u5.1.1.is rfl)) ?_
  rw [(show mu_i Q5 158 17 = (nI to0) from (ud_i (U := (upI U 158 4 (nI (sj + 1)))) (m := m) (P := 158) (j := 17) d5 rfl).trans hto)]
  refine mw_if (P := (nI at0) = (nI to0)) (a := 58) (b := 60) (fun _ => rfl) trivial (fun h6 => absurd h6 (fun z => absurd ((nI_eq (by omega) (by omega)).mp (show nI at0 = nI to0 from z)) (by omega))) (fun h6 => ?_)
  refine mw_go mu_g350 (k := 1) (f1 := (61, [(5, .inr (.inr (some qr))), (4, .inr (.inr (some ql))), (0, .inr (.inr (some 158))), (1, .inl (nI o)), (2, .inl (nI b)), (3, .inl (nI sj))], [.inl (nI o)], Q5)) (C := []) rfl trivial ?_
  refine mw_cIe (fun _ => rfl) trivial ((pv_timed2 (d := (d + 4)) (H := Q5) (o := o) ho34).imp (fun x H1 q => show x = (0 : Int32) ∧ H1 = Q5 from ⟨(q.1.resolve_right (fun y => hnt y.2)).1, q.2⟩)) ?_
  refine mw_if (P := (0 : Int32) = 0) (a := 67) (b := 84) (fun _ => rfl) trivial (fun h8 => ?_) (fun h8 => absurd (by decide) h8)
  refine mw_go mu_g350 (k := 6) (f1 := (77, [(5, .inr (.inr (some qr))), (4, .inr (.inr (some ql))), (0, .inr (.inr (some 158))), (1, .inl (nI o)), (2, .inl (nI b)), (3, .inl (nI sj))], [.inr (.inr (mu_r Q5 158 3)), .inr (.inr (some qr)), .inr (.inr (some ql)), .inl (nI o), .inr (.inr (some 158))], Q5)) (C := [mu_is Q5 (some 158) 8]) rfl (show mu_is Q5 (some 158) 8 from (u5.1.1.is rfl)) ?_
  rw [(u5.1.1.r (p := 158) (j := 3) (q := 161) rfl)]
  refine mw_go mu_g350 (k := 1) (f1 := (78, [(5, .inr (.inr (some qr))), (4, .inr (.inr (some ql))), (0, .inr (.inr (some 158))), (1, .inl (nI o)), (2, .inl (nI b)), (3, .inl (nI sj))], [.inl (nI sj), .inr (.inr (some 161)), .inr (.inr (some qr)), .inr (.inr (some ql)), .inl (nI o), .inr (.inr (some 158))], Q5)) (C := []) rfl trivial ?_
  have ka9 : mu_r Q5 161 sj = some qs := (dR_pool d5 (Or.inl rfl) (plp161 (show sj < 248 by omega))).trans (LSN.ref (show LSN (upI U 158 4 (nI (sj + 1))) 161 sj qs _ from (hls.keep (fun b c hb => by rcases hb with rfl | rfl <;> rfl) rfl)) (Or.inl rfl))
  refine mw_go mu_g350 (k := 1) (f1 := (79, [(5, .inr (.inr (some qr))), (4, .inr (.inr (some ql))), (0, .inr (.inr (some 158))), (1, .inl (nI o)), (2, .inl (nI b)), (3, .inl (nI sj))], [.inr (.inr (mu_r Q5 161 (nI sj).toNatClampNeg)), .inr (.inr (some qr)), .inr (.inr (some ql)), .inl (nI o), .inr (.inr (some 158))], Q5)) (C := [mu_is Q5 (some 161) (mu_k Q5 161), 103 ≤ mu_k Q5 161 ∧ mu_k Q5 161 ≤ 110 ∧ mu_k Q5 161 ≠ 108, vp_in (nI sj) (mu_n Q5 161)]) rfl (show (mu_is Q5 (some 161) (mu_k Q5 161)) ∧ (103 ≤ mu_k Q5 161 ∧ mu_k Q5 161 ≤ 110 ∧ mu_k Q5 161 ≠ 108) ∧ (vp_in (nI sj) (mu_n Q5 161)) from ⟨(by have z := (u5.1.1.a (p := 161) (x := (104, 248)) rfl).1; rw [show mu_k Q5 161 = 104 from z.2.2]; exact z), (by have z := (u5.1.1.a (p := 161) (x := (104, 248)) rfl).1; rw [show mu_k Q5 161 = 104 from z.2.2]; decide), (by rw [show mu_n Q5 161 = 248 from (u5.1.1.a (p := 161) (x := (104, 248)) rfl).2]; exact vp_in_nI (n := sj) (by omega) (by decide))⟩) ?_
  rw [show (mu_r Q5 161 (nI sj).toNatClampNeg) = (some qs) from (congrArg (mu_r Q5 161) (show (nI sj).toNatClampNeg = sj from nI_clamp (by omega))).trans ka9]
  refine mw_cV (fun _ => rfl) (show mu_is Q5 (some 158) 8 from (u5.1.1.is rfl)) (pr_join (d := (d + 4)) (C := C) (ja := jl) (jb := jr) (jo := sj) u5 d5 (show (upI U 158 4 (nI (sj + 1))).2.1 99 12 = nI wn from hw12) hwn ho (hll.keep (fun b c hb => by rcases hb with rfl | rfl <;> rfl) rfl) (hlr.keep (fun b c hb => by rcases hb with rfl | rfl <;> rfl) rfl) (hls.keep (fun b c hb => by rcases hb with rfl | rfl <;> rfl) rfl)) (fun Q10 q10 => ?_)
  obtain ⟨u10, r10, z10, gx0, hx48, hx62, hxw⟩ := q10
  have ht10 : ur m C H Q10 := ht5.trans r10
  obtain ⟨X0, d10⟩ : ∃ V, ud m Q10 = V := ⟨_, rfl⟩
  rw [d10] at z10 gx0 hx48 hx62 hxw
  have gx0 : GKQ 161 sj U X0 := gx0
  have hx48 : X0.2.2.2.2.1 148 = U.2.2.2.2.1 148 := hx48
  have qx0 : uq F350j U X0 := qf5.tr z10 rfl
  refine mw_go mu_g350 (k := 1) (f1 := (83, [(5, .inr (.inr (some qr))), (4, .inr (.inr (some ql))), (0, .inr (.inr (some 158))), (1, .inl (nI o)), (2, .inl (nI b)), (3, .inl (nI sj))], [.inl (0 : Int32)], Q10)) (C := []) rfl trivial ?_
  exact mw_of (fun _ => mu_ret rfl (Or.inl rfl) ⟨(0 : Int32), Q10, rfl, rfl, u10, ht10, (by rw [d10]; exact ⟨qx0, gx0, hx48, hx62, ((z10.i 158 4 rfl)).trans rfl, (z10.i 158 20 rfl), hxw⟩)⟩)
theorem pr_comb2 (h : um m H) (e : ud m H = U) (hz : (U.1 26).1 = sz) (hzb : sz < 2147483647) (hbz : b < sz) (hrb : (U.1 26).2 b 1 = nI jl) (hrt : (U.1 26).2 (sz - 1) 1 = nI jr) (hjl : jl < 248) (hjr : jr < 248) (hsj : sj < 248) (hll : LSN U 161 jl ql 256) (hlr : LSN U 161 jr qr 256) (hls : LSN U 161 sj qs 256) (hat : U.2.1 158 16 = nI at0) (hw12 : U.2.1 99 12 = nI wn) (hwn : wn ≤ 256) (ho34 : o ≤ 34) (hto : U.2.1 158 17 = nI to0) (hne : at0 < to0) (htb : to0 < 2147483648) (hG : GRB U T R wn rx mb me) (hF : FST U nf T FS) (hRB : ∀ x t, RB x t → t < T) (ho : tmd o) (hsg : U.2.1 158 20 = nI 0) (hET : ∀ s, s < 64 * wn → bts (U.2.2.2.2.1 124) s = true → s < T) : mu_TI (mu_D (d + 6)) 350 [.inr (.inr (some 158)), .inl (nI o), .inl (nI b), .inl (nI sj)] H (fun x H1 => x = 1 ∧ um m H1 ∧ ur m C H H1 ∧ ∃ X, uq F350j U X ∧ GKQ 161 sj U X ∧ X.2.2.2.2.1 148 = U.2.2.2.2.1 148 ∧ X.2.1 158 4 = nI (sj + 1) ∧ X.2.1 158 20 = nI 1 ∧ (∀ i, i < wn → X.2.2.2.2.1 162 i = prs o (lgf U 161 jl i) (lgf U 161 jr i) (U.2.2.2.2.1 124 i) ∧ lgf X 161 sj i = pro o (lgf U 161 jl i) (lgf U 161 jr i) (U.2.2.2.2.1 124 i)) ∧ RCK X (ud m H1) T R wn rx mb me RB nf FS 161 sj qs (plo o)) := by
  refine mu_meth (M := mu_m350) rfl rfl ?_
  refine mw_ht (mu_fn_of (show [0, 1, 2, 3].Nodup by decide)) ?_
  refine mw_go mu_g350 (k := 2) (f1 := (4, [(0, .inr (.inr (some 158))), (1, .inl (nI o)), (2, .inl (nI b)), (3, .inl (nI sj))], [.inr (.inr (mu_r H 158 3))], H)) (C := [mu_is H (some 158) 8]) rfl (show mu_is H (some 158) 8 from (h.1.1.is rfl)) ?_
  rw [(h.1.1.r (p := 158) (j := 3) (q := 161) rfl)]
  refine mw_go mu_g350 (k := 2) (f1 := (8, [(0, .inr (.inr (some 158))), (1, .inl (nI o)), (2, .inl (nI b)), (3, .inl (nI sj))], [.inr (.inr (mu_r H 158 2)), .inr (.inr (some 161))], H)) (C := [mu_is H (some 158) 8]) rfl (show mu_is H (some 158) 8 from (h.1.1.is rfl)) ?_
  rw [(h.1.1.r (p := 158) (j := 2) (q := 159) rfl)]
  refine mw_go mu_g350 (k := 2) (f1 := (10, [(0, .inr (.inr (some 158))), (1, .inl (nI o)), (2, .inl (nI b)), (3, .inl (nI sj))], [.inl (1 : Int32), .inl (nI b), .inr (.inr (some 159)), .inr (.inr (some 161))], H)) (C := []) rfl trivial ?_
  refine mw_cIe (fun _ => rfl) (show mu_is H (some 159) 10 from (h.1.1.is rfl)) (h.getr (d := (d + 4)) e (j := 26) (by decide) rfl (nI b) (c := 1) (by decide)) ?_
  rw [show (tget (U.1 26) (nI b) 1) = (nI jl) from ((congrArg (fun z => tget z (nI b) 1) (show U.1 26 = (U.1 26) from rfl)).trans (tget_nI (by first | omega | decide))).trans hrb]
  have ka2 : mu_r H 161 jl = some ql := (dR_pool e (Or.inl rfl) (plp161 (show jl < 248 by omega))).trans (LSN.ref (show LSN U 161 jl ql _ from hll) (Or.inl rfl))
  refine mw_go mu_g350 (k := 1) (f1 := (14, [(0, .inr (.inr (some 158))), (1, .inl (nI o)), (2, .inl (nI b)), (3, .inl (nI sj))], [.inr (.inr (mu_r H 161 (nI jl).toNatClampNeg))], H)) (C := [mu_is H (some 161) (mu_k H 161), 103 ≤ mu_k H 161 ∧ mu_k H 161 ≤ 110 ∧ mu_k H 161 ≠ 108, vp_in (nI jl) (mu_n H 161)]) rfl (show (mu_is H (some 161) (mu_k H 161)) ∧ (103 ≤ mu_k H 161 ∧ mu_k H 161 ≤ 110 ∧ mu_k H 161 ≠ 108) ∧ (vp_in (nI jl) (mu_n H 161)) from ⟨(by have z := (h.1.1.a (p := 161) (x := (104, 248)) rfl).1; rw [show mu_k H 161 = 104 from z.2.2]; exact z), (by have z := (h.1.1.a (p := 161) (x := (104, 248)) rfl).1; rw [show mu_k H 161 = 104 from z.2.2]; decide), (by rw [show mu_n H 161 = 248 from (h.1.1.a (p := 161) (x := (104, 248)) rfl).2]; exact vp_in_nI (n := jl) (by omega) (by decide))⟩) ?_
  rw [show (mu_r H 161 (nI jl).toNatClampNeg) = (some ql) from (congrArg (mu_r H 161) (show (nI jl).toNatClampNeg = jl from nI_clamp (by omega))).trans ka2]
  refine mw_go mu_g350 (k := 3) (f1 := (20, [(4, .inr (.inr (some ql))), (0, .inr (.inr (some 158))), (1, .inl (nI o)), (2, .inl (nI b)), (3, .inl (nI sj))], [.inr (.inr (mu_r H 158 3))], H)) (C := [mu_is H (some 158) 8]) rfl (show mu_is H (some 158) 8 from (h.1.1.is rfl)) ?_
  rw [(h.1.1.r (p := 158) (j := 3) (q := 161) rfl)]
  refine mw_go mu_g350 (k := 2) (f1 := (24, [(4, .inr (.inr (some ql))), (0, .inr (.inr (some 158))), (1, .inl (nI o)), (2, .inl (nI b)), (3, .inl (nI sj))], [.inr (.inr (mu_r H 158 2)), .inr (.inr (some 161))], H)) (C := [mu_is H (some 158) 8]) rfl (show mu_is H (some 158) 8 from (h.1.1.is rfl)) ?_
  rw [(h.1.1.r (p := 158) (j := 2) (q := 159) rfl)]
  refine mw_go mu_g350 (k := 2) (f1 := (28, [(4, .inr (.inr (some ql))), (0, .inr (.inr (some 158))), (1, .inl (nI o)), (2, .inl (nI b)), (3, .inl (nI sj))], [.inr (.inr (mu_r H 158 2)), .inr (.inr (some 159)), .inr (.inr (some 161))], H)) (C := [mu_is H (some 158) 8]) rfl (show mu_is H (some 158) 8 from (h.1.1.is rfl)) ?_
  rw [(h.1.1.r (p := 158) (j := 2) (q := 159) rfl)]
  refine mw_go mu_g350 (k := 1) (f1 := (31, [(4, .inr (.inr (some ql))), (0, .inr (.inr (some 158))), (1, .inl (nI o)), (2, .inl (nI b)), (3, .inl (nI sj))], [.inl (mu_i H 159 2), .inr (.inr (some 159)), .inr (.inr (some 161))], H)) (C := [mu_is H (some 159) 10]) rfl (show mu_is H (some 159) 10 from (h.1.1.is rfl)) ?_
  rw [(show mu_i H 159 2 = (nI sz) from (h.size e (j := 26) (by decide) rfl).trans (congrArg nI ((congrArg Prod.fst (show U.1 26 = (U.1 26) from rfl)).trans hz)))]
  refine mw_go mu_g350 (k := 2) (f1 := (33, [(4, .inr (.inr (some ql))), (0, .inr (.inr (some 158))), (1, .inl (nI o)), (2, .inl (nI b)), (3, .inl (nI sj))], [.inl ((nI sz) - (1 : Int32)), .inr (.inr (some 159)), .inr (.inr (some 161))], H)) (C := []) rfl trivial ?_
  rw [(show ((nI sz) - (1 : Int32)) = (nI (sz - 1)) from (nI_sub (a := sz) (b := 1) (by omega)))]
  refine mw_go mu_g350 (k := 1) (f1 := (34, [(4, .inr (.inr (some ql))), (0, .inr (.inr (some 158))), (1, .inl (nI o)), (2, .inl (nI b)), (3, .inl (nI sj))], [.inl (1 : Int32), .inl (nI (sz - 1)), .inr (.inr (some 159)), .inr (.inr (some 161))], H)) (C := []) rfl trivial ?_
  refine mw_cIe (fun _ => rfl) (show mu_is H (some 159) 10 from (h.1.1.is rfl)) (h.getr (d := (d + 4)) e (j := 26) (by decide) rfl (nI (sz - 1)) (c := 1) (by decide)) ?_
  rw [show (tget (U.1 26) (nI (sz - 1)) 1) = (nI jr) from ((congrArg (fun z => tget z (nI (sz - 1)) 1) (show U.1 26 = (U.1 26) from rfl)).trans (tget_nI (by first | omega | decide))).trans hrt]
  have ka4 : mu_r H 161 jr = some qr := (dR_pool e (Or.inl rfl) (plp161 (show jr < 248 by omega))).trans (LSN.ref (show LSN U 161 jr qr _ from hlr) (Or.inl rfl))
  refine mw_go mu_g350 (k := 1) (f1 := (38, [(4, .inr (.inr (some ql))), (0, .inr (.inr (some 158))), (1, .inl (nI o)), (2, .inl (nI b)), (3, .inl (nI sj))], [.inr (.inr (mu_r H 161 (nI jr).toNatClampNeg))], H)) (C := [mu_is H (some 161) (mu_k H 161), 103 ≤ mu_k H 161 ∧ mu_k H 161 ≤ 110 ∧ mu_k H 161 ≠ 108, vp_in (nI jr) (mu_n H 161)]) rfl (show (mu_is H (some 161) (mu_k H 161)) ∧ (103 ≤ mu_k H 161 ∧ mu_k H 161 ≤ 110 ∧ mu_k H 161 ≠ 108) ∧ (vp_in (nI jr) (mu_n H 161)) from ⟨(by have z := (h.1.1.a (p := 161) (x := (104, 248)) rfl).1; rw [show mu_k H 161 = 104 from z.2.2]; exact z), (by have z := (h.1.1.a (p := 161) (x := (104, 248)) rfl).1; rw [show mu_k H 161 = 104 from z.2.2]; decide), (by rw [show mu_n H 161 = 248 from (h.1.1.a (p := 161) (x := (104, 248)) rfl).2]; exact vp_in_nI (n := jr) (by omega) (by decide))⟩) ?_
  rw [show (mu_r H 161 (nI jr).toNatClampNeg) = (some qr) from (congrArg (mu_r H 161) (show (nI jr).toNatClampNeg = jr from nI_clamp (by omega))).trans ka4]
  refine mw_go mu_g350 (k := 5) (f1 := (44, [(5, .inr (.inr (some qr))), (4, .inr (.inr (some ql))), (0, .inr (.inr (some 158))), (1, .inl (nI o)), (2, .inl (nI b)), (3, .inl (nI sj))], [.inl ((nI sj) + (1 : Int32)), .inr (.inr (some 158))], H)) (C := []) rfl trivial ?_
  rw [(show ((nI sj) + (1 : Int32)) = (nI (sj + 1)) from (nI_add sj 1))]
  refine mw_go mu_g350 (k := 1) (f1 := (47, [(5, .inr (.inr (some qr))), (4, .inr (.inr (some ql))), (0, .inr (.inr (some 158))), (1, .inl (nI o)), (2, .inl (nI b)), (3, .inl (nI sj))], [], (mu_si H 158 4 (nI (sj + 1))))) (C := [mu_is H (some 158) 8]) rfl (show mu_is H (some 158) 8 from (h.1.1.is rfl)) ?_
  obtain ⟨u5, r5, d5⟩ : um m (mu_si H 158 4 (nI (sj + 1))) ∧ ur m C H (mu_si H 158 4 (nI (sj + 1))) ∧ ud m (mu_si H 158 4 (nI (sj + 1))) = (upI U 158 4 (nI (sj + 1))) := h.sI (C := C) e rfl
  generalize (mu_si H 158 4 (nI (sj + 1))) = Q5 at u5 r5 d5 ⊢
  have qf5 : uq F350j U (upI U 158 4 (nI (sj + 1))) := (uq.refl F350j U).I rfl
  have ht5 : ur m C H Q5 := (ur.refl m C H).trans r5
  refine mw_go mu_g350 (k := 2) (f1 := (51, [(5, .inr (.inr (some qr))), (4, .inr (.inr (some ql))), (0, .inr (.inr (some 158))), (1, .inl (nI o)), (2, .inl (nI b)), (3, .inl (nI sj))], [.inl (mu_i Q5 158 16)], Q5)) (C := [mu_is Q5 (some 158) 8]) rfl (show mu_is Q5 (some 158) 8 from (u5.1.1.is rfl)) ?_
  rw [(show mu_i Q5 158 16 = (nI at0) from (ud_i (U := (upI U 158 4 (nI (sj + 1)))) (m := m) (P := 158) (j := 16) d5 rfl).trans hat)]
  refine mw_go mu_g350 (k := 2) (f1 := (55, [(5, .inr (.inr (some qr))), (4, .inr (.inr (some ql))), (0, .inr (.inr (some 158))), (1, .inl (nI o)), (2, .inl (nI b)), (3, .inl (nI sj))], [.inl (mu_i Q5 158 17), .inl (nI at0)], Q5)) (C := [mu_is Q5 (some 158) 8]) rfl (show mu_is Q5 (some 158) 8 from (u5.1.1.is rfl)) ?_
  rw [(show mu_i Q5 158 17 = (nI to0) from (ud_i (U := (upI U 158 4 (nI (sj + 1)))) (m := m) (P := 158) (j := 17) d5 rfl).trans hto)]
  refine mw_if (P := (nI at0) = (nI to0)) (a := 58) (b := 60) (fun _ => rfl) trivial (fun h6 => absurd h6 (fun z => absurd ((nI_eq (by omega) (by omega)).mp (show nI at0 = nI to0 from z)) (by omega))) (fun h6 => ?_)
  refine mw_go mu_g350 (k := 1) (f1 := (61, [(5, .inr (.inr (some qr))), (4, .inr (.inr (some ql))), (0, .inr (.inr (some 158))), (1, .inl (nI o)), (2, .inl (nI b)), (3, .inl (nI sj))], [.inl (nI o)], Q5)) (C := []) rfl trivial ?_
  refine mw_cIe (fun _ => rfl) trivial ((pv_timed2 (d := (d + 4)) (H := Q5) (o := o) ho34).imp (fun x H1 q => show x = (1 : Int32) ∧ H1 = Q5 from ⟨(q.1.resolve_left (fun y => y.2 ho)).1, q.2⟩)) ?_
  refine mw_if (P := (1 : Int32) = 0) (a := 67) (b := 84) (fun _ => rfl) trivial (fun h8 => absurd h8 (by decide)) (fun h8 => ?_)
  refine mw_go mu_g350 (k := 3) (f1 := (89, [(5, .inr (.inr (some qr))), (4, .inr (.inr (some ql))), (0, .inr (.inr (some 158))), (1, .inl (nI o)), (2, .inl (nI b)), (3, .inl (nI sj))], [.inl (mu_i Q5 158 20), .inr (.inr (some 158))], Q5)) (C := [mu_is Q5 (some 158) 8]) rfl (show mu_is Q5 (some 158) 8 from (u5.1.1.is rfl)) ?_
  rw [(show mu_i Q5 158 20 = (nI 0) from (ud_i (U := (upI U 158 4 (nI (sj + 1)))) (m := m) (P := 158) (j := 20) d5 rfl).trans hsg)]
  refine mw_go mu_g350 (k := 2) (f1 := (91, [(5, .inr (.inr (some qr))), (4, .inr (.inr (some ql))), (0, .inr (.inr (some 158))), (1, .inl (nI o)), (2, .inl (nI b)), (3, .inl (nI sj))], [.inl ((nI 0) + (1 : Int32)), .inr (.inr (some 158))], Q5)) (C := []) rfl trivial ?_
  rw [(show ((nI 0) + (1 : Int32)) = (nI (0 + 1)) from (nI_add 0 1))]
  refine mw_go mu_g350 (k := 1) (f1 := (94, [(5, .inr (.inr (some qr))), (4, .inr (.inr (some ql))), (0, .inr (.inr (some 158))), (1, .inl (nI o)), (2, .inl (nI b)), (3, .inl (nI sj))], [], (mu_si Q5 158 20 (nI (0 + 1))))) (C := [mu_is Q5 (some 158) 8]) rfl (show mu_is Q5 (some 158) 8 from (u5.1.1.is rfl)) ?_
  obtain ⟨u9, r9, d9⟩ : um m (mu_si Q5 158 20 (nI (0 + 1))) ∧ ur m C Q5 (mu_si Q5 158 20 (nI (0 + 1))) ∧ ud m (mu_si Q5 158 20 (nI (0 + 1))) = (upI (upI U 158 4 (nI (sj + 1))) 158 20 (nI (0 + 1))) := u5.sI (C := C) d5 rfl
  generalize (mu_si Q5 158 20 (nI (0 + 1))) = Q9 at u9 r9 d9 ⊢
  have qf9 : uq F350j U (upI (upI U 158 4 (nI (sj + 1))) 158 20 (nI (0 + 1))) := qf5.I rfl
  have ht9 : ur m C H Q9 := ht5.trans r9
  refine mw_go mu_g350 (k := 2) (f1 := (98, [(5, .inr (.inr (some qr))), (4, .inr (.inr (some ql))), (0, .inr (.inr (some 158))), (1, .inl (nI o)), (2, .inl (nI b)), (3, .inl (nI sj))], [.inl (mu_i Q9 158 20)], Q9)) (C := [mu_is Q9 (some 158) 8]) rfl (show mu_is Q9 (some 158) 8 from (u9.1.1.is rfl)) ?_
  rw [(show mu_i Q9 158 20 = (nI (0 + 1)) from (ud_i (U := (upI (upI U 158 4 (nI (sj + 1))) 158 20 (nI (0 + 1)))) (m := m) (P := 158) (j := 20) d9 rfl))]
  refine mw_go mu_g350 (k := 1) (f1 := (99, [(5, .inr (.inr (some qr))), (4, .inr (.inr (some ql))), (0, .inr (.inr (some 158))), (1, .inl (nI o)), (2, .inl (nI b)), (3, .inl (nI sj))], [.inl (1 : Int32), .inl (nI (0 + 1))], Q9)) (C := []) rfl trivial ?_
  refine mw_if (P := (nI (0 + 1)) = (1 : Int32)) (a := 102) (b := 146) (fun _ => rfl) trivial (fun h10 => ?_) (fun h10 => absurd (by decide) h10)
  refine mw_go mu_g350 (k := 6) (f1 := (112, [(5, .inr (.inr (some qr))), (4, .inr (.inr (some ql))), (0, .inr (.inr (some 158))), (1, .inl (nI o)), (2, .inl (nI b)), (3, .inl (nI sj))], [.inr (.inr (mu_r Q9 158 3)), .inr (.inr (some qr)), .inr (.inr (some ql)), .inl (nI o), .inr (.inr (some 158))], Q9)) (C := [mu_is Q9 (some 158) 8]) rfl (show mu_is Q9 (some 158) 8 from (u9.1.1.is rfl)) ?_
  rw [(u9.1.1.r (p := 158) (j := 3) (q := 161) rfl)]
  refine mw_go mu_g350 (k := 1) (f1 := (113, [(5, .inr (.inr (some qr))), (4, .inr (.inr (some ql))), (0, .inr (.inr (some 158))), (1, .inl (nI o)), (2, .inl (nI b)), (3, .inl (nI sj))], [.inl (nI sj), .inr (.inr (some 161)), .inr (.inr (some qr)), .inr (.inr (some ql)), .inl (nI o), .inr (.inr (some 158))], Q9)) (C := []) rfl trivial ?_
  have ka11 : mu_r Q9 161 sj = some qs := (dR_pool d9 (Or.inl rfl) (plp161 (show sj < 248 by omega))).trans (LSN.ref (show LSN (upI (upI U 158 4 (nI (sj + 1))) 158 20 (nI (0 + 1))) 161 sj qs _ from (hls.keep (fun b c hb => by rcases hb with rfl | rfl <;> rfl) rfl)) (Or.inl rfl))
  refine mw_go mu_g350 (k := 1) (f1 := (114, [(5, .inr (.inr (some qr))), (4, .inr (.inr (some ql))), (0, .inr (.inr (some 158))), (1, .inl (nI o)), (2, .inl (nI b)), (3, .inl (nI sj))], [.inr (.inr (mu_r Q9 161 (nI sj).toNatClampNeg)), .inr (.inr (some qr)), .inr (.inr (some ql)), .inl (nI o), .inr (.inr (some 158))], Q9)) (C := [mu_is Q9 (some 161) (mu_k Q9 161), 103 ≤ mu_k Q9 161 ∧ mu_k Q9 161 ≤ 110 ∧ mu_k Q9 161 ≠ 108, vp_in (nI sj) (mu_n Q9 161)]) rfl (show (mu_is Q9 (some 161) (mu_k Q9 161)) ∧ (103 ≤ mu_k Q9 161 ∧ mu_k Q9 161 ≤ 110 ∧ mu_k Q9 161 ≠ 108) ∧ (vp_in (nI sj) (mu_n Q9 161)) from ⟨(by have z := (u9.1.1.a (p := 161) (x := (104, 248)) rfl).1; rw [show mu_k Q9 161 = 104 from z.2.2]; exact z), (by have z := (u9.1.1.a (p := 161) (x := (104, 248)) rfl).1; rw [show mu_k Q9 161 = 104 from z.2.2]; decide), (by rw [show mu_n Q9 161 = 248 from (u9.1.1.a (p := 161) (x := (104, 248)) rfl).2]; exact vp_in_nI (n := sj) (by omega) (by decide))⟩) ?_
  rw [show (mu_r Q9 161 (nI sj).toNatClampNeg) = (some qs) from (congrArg (mu_r Q9 161) (show (nI sj).toNatClampNeg = sj from nI_clamp (by omega))).trans ka11]
  refine mw_cV (fun _ => rfl) (show mu_is Q9 (some 158) 8 from (u9.1.1.is rfl)) (pr_prepare (d := (d + 3)) (C := C) (ja := jl) (jb := jr) (jo := sj) u9 d9 (show (upI (upI U 158 4 (nI (sj + 1))) 158 20 (nI (0 + 1))).2.1 99 12 = nI wn from hw12) hwn ho (hll.keep (fun b c hb => by rcases hb with rfl | rfl <;> rfl) rfl) (hlr.keep (fun b c hb => by rcases hb with rfl | rfl <;> rfl) rfl) (hls.keep (fun b c hb => by rcases hb with rfl | rfl <;> rfl) rfl)) (fun Q12 q12 => ?_)
  obtain ⟨u12, r12, z12, gx0, hx48, hxw⟩ := q12
  have ht12 : ur m C H Q12 := ht9.trans r12
  obtain ⟨X0, d12⟩ : ∃ V, ud m Q12 = V := ⟨_, rfl⟩
  rw [d12] at z12 gx0 hx48 hxw
  have gx0 : GKQ 161 sj U X0 := gx0
  have hx48 : X0.2.2.2.2.1 148 = U.2.2.2.2.1 148 := hx48
  have qx0 : uq F350j U X0 := qf9.tr z12 rfl
  refine mw_go mu_g350 (k := 2) (f1 := (121, [(5, .inr (.inr (some qr))), (4, .inr (.inr (some ql))), (0, .inr (.inr (some 158))), (1, .inl (nI o)), (2, .inl (nI b)), (3, .inl (nI sj))], [.inr (.inr (mu_r Q12 158 1))], Q12)) (C := [mu_is Q12 (some 158) 8]) rfl (show mu_is Q12 (some 158) 8 from (u12.1.1.is rfl)) ?_
  rw [(u12.1.1.r (p := 158) (j := 1) (q := 147) rfl)]
  refine mw_go mu_g350 (k := 1) (f1 := (122, [(5, .inr (.inr (some qr))), (4, .inr (.inr (some ql))), (0, .inr (.inr (some 158))), (1, .inl (nI o)), (2, .inl (nI b)), (3, .inl (nI sj))], [.inl (nI o), .inr (.inr (some 147))], Q12)) (C := []) rfl trivial ?_
  refine mw_cIe (fun _ => rfl) trivial (pr_plain (d := (d + 4)) (H := Q12) (o := o) ho34) ?_
  refine mw_go mu_g350 (k := 2) (f1 := (129, [(5, .inr (.inr (some qr))), (4, .inr (.inr (some ql))), (0, .inr (.inr (some 158))), (1, .inl (nI o)), (2, .inl (nI b)), (3, .inl (nI sj))], [.inr (.inr (mu_r Q12 158 5)), .inl (nI (plo o)), .inr (.inr (some 147))], Q12)) (C := [mu_is Q12 (some 158) 8]) rfl (show mu_is Q12 (some 158) 8 from (u12.1.1.is rfl)) ?_
  rw [(u12.1.1.r (p := 158) (j := 5) (q := 162) rfl)]
  refine mw_go mu_g350 (k := 2) (f1 := (133, [(5, .inr (.inr (some qr))), (4, .inr (.inr (some ql))), (0, .inr (.inr (some 158))), (1, .inl (nI o)), (2, .inl (nI b)), (3, .inl (nI sj))], [.inr (.inr (mu_r Q12 158 3)), .inr (.inr (some 162)), .inl (nI (plo o)), .inr (.inr (some 147))], Q12)) (C := [mu_is Q12 (some 158) 8]) rfl (show mu_is Q12 (some 158) 8 from (u12.1.1.is rfl)) ?_
  rw [(u12.1.1.r (p := 158) (j := 3) (q := 161) rfl)]
  refine mw_go mu_g350 (k := 1) (f1 := (134, [(5, .inr (.inr (some qr))), (4, .inr (.inr (some ql))), (0, .inr (.inr (some 158))), (1, .inl (nI o)), (2, .inl (nI b)), (3, .inl (nI sj))], [.inl (nI sj), .inr (.inr (some 161)), .inr (.inr (some 162)), .inl (nI (plo o)), .inr (.inr (some 147))], Q12)) (C := []) rfl trivial ?_
  have ka14 : mu_r Q12 161 sj = some qs := (dR_pool d12 (Or.inl rfl) (plp161 (show sj < 248 by omega))).trans (LSN.ref (show LSN X0 161 sj qs _ from (hls.gk qx0 (fun _ => rfl) (fun _ => rfl) gx0)) (Or.inl rfl))
  refine mw_go mu_g350 (k := 1) (f1 := (135, [(5, .inr (.inr (some qr))), (4, .inr (.inr (some ql))), (0, .inr (.inr (some 158))), (1, .inl (nI o)), (2, .inl (nI b)), (3, .inl (nI sj))], [.inr (.inr (mu_r Q12 161 (nI sj).toNatClampNeg)), .inr (.inr (some 162)), .inl (nI (plo o)), .inr (.inr (some 147))], Q12)) (C := [mu_is Q12 (some 161) (mu_k Q12 161), 103 ≤ mu_k Q12 161 ∧ mu_k Q12 161 ≤ 110 ∧ mu_k Q12 161 ≠ 108, vp_in (nI sj) (mu_n Q12 161)]) rfl (show (mu_is Q12 (some 161) (mu_k Q12 161)) ∧ (103 ≤ mu_k Q12 161 ∧ mu_k Q12 161 ≤ 110 ∧ mu_k Q12 161 ≠ 108) ∧ (vp_in (nI sj) (mu_n Q12 161)) from ⟨(by have z := (u12.1.1.a (p := 161) (x := (104, 248)) rfl).1; rw [show mu_k Q12 161 = 104 from z.2.2]; exact z), (by have z := (u12.1.1.a (p := 161) (x := (104, 248)) rfl).1; rw [show mu_k Q12 161 = 104 from z.2.2]; decide), (by rw [show mu_n Q12 161 = 248 from (u12.1.1.a (p := 161) (x := (104, 248)) rfl).2]; exact vp_in_nI (n := sj) (by omega) (by decide))⟩) ?_
  rw [show (mu_r Q12 161 (nI sj).toNatClampNeg) = (some qs) from (congrArg (mu_r Q12 161) (show (nI sj).toNatClampNeg = sj from nI_clamp (by omega))).trans ka14]
  refine mw_go mu_g350 (k := 2) (f1 := (139, [(5, .inr (.inr (some qr))), (4, .inr (.inr (some ql))), (0, .inr (.inr (some 158))), (1, .inl (nI o)), (2, .inl (nI b)), (3, .inl (nI sj))], [.inr (.inr (mu_r Q12 158 3)), .inr (.inr (some qs)), .inr (.inr (some 162)), .inl (nI (plo o)), .inr (.inr (some 147))], Q12)) (C := [mu_is Q12 (some 158) 8]) rfl (show mu_is Q12 (some 158) 8 from (u12.1.1.is rfl)) ?_
  rw [(u12.1.1.r (p := 158) (j := 3) (q := 161) rfl)]
  refine mw_go mu_g350 (k := 1) (f1 := (140, [(5, .inr (.inr (some qr))), (4, .inr (.inr (some ql))), (0, .inr (.inr (some 158))), (1, .inl (nI o)), (2, .inl (nI b)), (3, .inl (nI sj))], [.inl (nI sj), .inr (.inr (some 161)), .inr (.inr (some qs)), .inr (.inr (some 162)), .inl (nI (plo o)), .inr (.inr (some 147))], Q12)) (C := []) rfl trivial ?_
  have ka15 : mu_r Q12 161 sj = some qs := (dR_pool d12 (Or.inl rfl) (plp161 (show sj < 248 by omega))).trans (LSN.ref (show LSN X0 161 sj qs _ from (hls.gk qx0 (fun _ => rfl) (fun _ => rfl) gx0)) (Or.inl rfl))
  refine mw_go mu_g350 (k := 1) (f1 := (141, [(5, .inr (.inr (some qr))), (4, .inr (.inr (some ql))), (0, .inr (.inr (some 158))), (1, .inl (nI o)), (2, .inl (nI b)), (3, .inl (nI sj))], [.inr (.inr (mu_r Q12 161 (nI sj).toNatClampNeg)), .inr (.inr (some qs)), .inr (.inr (some 162)), .inl (nI (plo o)), .inr (.inr (some 147))], Q12)) (C := [mu_is Q12 (some 161) (mu_k Q12 161), 103 ≤ mu_k Q12 161 ∧ mu_k Q12 161 ≤ 110 ∧ mu_k Q12 161 ≠ 108, vp_in (nI sj) (mu_n Q12 161)]) rfl (show (mu_is Q12 (some 161) (mu_k Q12 161)) ∧ (103 ≤ mu_k Q12 161 ∧ mu_k Q12 161 ≤ 110 ∧ mu_k Q12 161 ≠ 108) ∧ (vp_in (nI sj) (mu_n Q12 161)) from ⟨(by have z := (u12.1.1.a (p := 161) (x := (104, 248)) rfl).1; rw [show mu_k Q12 161 = 104 from z.2.2]; exact z), (by have z := (u12.1.1.a (p := 161) (x := (104, 248)) rfl).1; rw [show mu_k Q12 161 = 104 from z.2.2]; decide), (by rw [show mu_n Q12 161 = 248 from (u12.1.1.a (p := 161) (x := (104, 248)) rfl).2]; exact vp_in_nI (n := sj) (by omega) (by decide))⟩) ?_
  rw [show (mu_r Q12 161 (nI sj).toNatClampNeg) = (some qs) from (congrArg (mu_r Q12 161) (show (nI sj).toNatClampNeg = sj from nI_clamp (by omega))).trans ka15]
  refine mw_cV (fun _ => rfl) (show mu_is Q12 (some 147) 2 from (u12.1.1.is rfl)) (gr_reckon (d := d) (C := C) (ga := 161) (gi := sj) (gq := qs) (op := plo o) (RB := RB) u12 d12 (hG.keep qx0 rfl (NK.of_eq (qx0.a 147 10 rfl))) (hF.eq (qx0.i 99 19 rfl) (qx0.a 113 3 rfl) (fun c => gx0.1 114 c (fun z => absurd z.1 (by decide)))) (hls.gk qx0 (fun _ => rfl) (fun _ => rfl) gx0) (fun z => absurd z.1 (by decide)) plo_3 (fun s hs y => hET s hs (rka_sub hxw hs y)) hRB) (fun Q16 q16 => ?_)
  obtain ⟨u16, r16, z16, gk16, hrk⟩ := q16
  have ht16 : ur m C H Q16 := ht12.trans r16
  refine mw_go mu_g350 (k := 1) (f1 := (145, [(5, .inr (.inr (some qr))), (4, .inr (.inr (some ql))), (0, .inr (.inr (some 158))), (1, .inl (nI o)), (2, .inl (nI b)), (3, .inl (nI sj))], [.inl (1 : Int32)], Q16)) (C := []) rfl trivial ?_
  exact mw_of (fun _ => mu_ret rfl (Or.inr rfl) ⟨(1 : Int32), Q16, rfl, rfl, u16, ht16, X0, qx0, gx0, hx48, (z12.i 158 4 rfl).trans rfl, (z12.i 158 20 rfl).trans rfl, hxw, z16, gk16, hrk⟩)
theorem rka162 {s : Nat} (h : bts (rka X 0 162 12) s = true) : bts (X.2.2.2.2.1 162) s = true := by
  unfold bts at h ⊢
  unfold rka at h
  rw [if_neg (by decide)] at h
  exact and_l h
theorem pr_comb3 (h : um m H) (e : ud m H = U) (hz : (U.1 26).1 = sz) (hzb : sz < 2147483647) (hbz : b < sz) (hrb : (U.1 26).2 b 1 = nI jl) (hrt : (U.1 26).2 (sz - 1) 1 = nI jr) (hjl : jl < 248) (hjr : jr < 248) (hsj : sj < 248) (hll : LSN U 161 jl ql 256) (hlr : LSN U 161 jr qr 256) (hls : LSN U 161 sj qs 256) (hat : U.2.1 158 16 = nI at0) (hw12 : U.2.1 99 12 = nI wn) (hwn : wn ≤ 256) (ho34 : o ≤ 34) (hto : U.2.1 158 17 = nI to0) (hne : at0 < to0) (htb : to0 < 2147483648) (hG : GRB U T R wn rx mb me) (hF : FST U nf T FS) (hRB : ∀ x t, RB x t → t < T) (ho29 : o = 29) (ho : tmd o) (hsg : U.2.1 158 20 = nI 1) (hAT : ∀ s, s < 64 * wn → bts (U.2.2.2.2.1 162) s = true → s < T) : mu_TI (mu_D (d + 6)) 350 [.inr (.inr (some 158)), .inl (nI o), .inl (nI b), .inl (nI sj)] H (fun x H1 => x = 1 ∧ um m H1 ∧ ur m C H H1 ∧ ∃ X, X = upI (upI U 158 4 (nI (sj + 1))) 158 20 (nI 2) ∧ RCK X (ud m H1) T R wn rx mb me RB nf FS 0 162 162 12) := by
  refine mu_meth (M := mu_m350) rfl rfl ?_
  refine mw_ht (mu_fn_of (show [0, 1, 2, 3].Nodup by decide)) ?_
  refine mw_go mu_g350 (k := 2) (f1 := (4, [(0, .inr (.inr (some 158))), (1, .inl (nI o)), (2, .inl (nI b)), (3, .inl (nI sj))], [.inr (.inr (mu_r H 158 3))], H)) (C := [mu_is H (some 158) 8]) rfl (show mu_is H (some 158) 8 from (h.1.1.is rfl)) ?_
  rw [(h.1.1.r (p := 158) (j := 3) (q := 161) rfl)]
  refine mw_go mu_g350 (k := 2) (f1 := (8, [(0, .inr (.inr (some 158))), (1, .inl (nI o)), (2, .inl (nI b)), (3, .inl (nI sj))], [.inr (.inr (mu_r H 158 2)), .inr (.inr (some 161))], H)) (C := [mu_is H (some 158) 8]) rfl (show mu_is H (some 158) 8 from (h.1.1.is rfl)) ?_
  rw [(h.1.1.r (p := 158) (j := 2) (q := 159) rfl)]
  refine mw_go mu_g350 (k := 2) (f1 := (10, [(0, .inr (.inr (some 158))), (1, .inl (nI o)), (2, .inl (nI b)), (3, .inl (nI sj))], [.inl (1 : Int32), .inl (nI b), .inr (.inr (some 159)), .inr (.inr (some 161))], H)) (C := []) rfl trivial ?_
  refine mw_cIe (fun _ => rfl) (show mu_is H (some 159) 10 from (h.1.1.is rfl)) (h.getr (d := (d + 4)) e (j := 26) (by decide) rfl (nI b) (c := 1) (by decide)) ?_
  rw [show (tget (U.1 26) (nI b) 1) = (nI jl) from ((congrArg (fun z => tget z (nI b) 1) (show U.1 26 = (U.1 26) from rfl)).trans (tget_nI (by first | omega | decide))).trans hrb]
  have ka2 : mu_r H 161 jl = some ql := (dR_pool e (Or.inl rfl) (plp161 (show jl < 248 by omega))).trans (LSN.ref (show LSN U 161 jl ql _ from hll) (Or.inl rfl))
  refine mw_go mu_g350 (k := 1) (f1 := (14, [(0, .inr (.inr (some 158))), (1, .inl (nI o)), (2, .inl (nI b)), (3, .inl (nI sj))], [.inr (.inr (mu_r H 161 (nI jl).toNatClampNeg))], H)) (C := [mu_is H (some 161) (mu_k H 161), 103 ≤ mu_k H 161 ∧ mu_k H 161 ≤ 110 ∧ mu_k H 161 ≠ 108, vp_in (nI jl) (mu_n H 161)]) rfl (show (mu_is H (some 161) (mu_k H 161)) ∧ (103 ≤ mu_k H 161 ∧ mu_k H 161 ≤ 110 ∧ mu_k H 161 ≠ 108) ∧ (vp_in (nI jl) (mu_n H 161)) from ⟨(by have z := (h.1.1.a (p := 161) (x := (104, 248)) rfl).1; rw [show mu_k H 161 = 104 from z.2.2]; exact z), (by have z := (h.1.1.a (p := 161) (x := (104, 248)) rfl).1; rw [show mu_k H 161 = 104 from z.2.2]; decide), (by rw [show mu_n H 161 = 248 from (h.1.1.a (p := 161) (x := (104, 248)) rfl).2]; exact vp_in_nI (n := jl) (by omega) (by decide))⟩) ?_
  rw [show (mu_r H 161 (nI jl).toNatClampNeg) = (some ql) from (congrArg (mu_r H 161) (show (nI jl).toNatClampNeg = jl from nI_clamp (by omega))).trans ka2]
  refine mw_go mu_g350 (k := 3) (f1 := (20, [(4, .inr (.inr (some ql))), (0, .inr (.inr (some 158))), (1, .inl (nI o)), (2, .inl (nI b)), (3, .inl (nI sj))], [.inr (.inr (mu_r H 158 3))], H)) (C := [mu_is H (some 158) 8]) rfl (show mu_is H (some 158) 8 from (h.1.1.is rfl)) ?_
  rw [(h.1.1.r (p := 158) (j := 3) (q := 161) rfl)]
  refine mw_go mu_g350 (k := 2) (f1 := (24, [(4, .inr (.inr (some ql))), (0, .inr (.inr (some 158))), (1, .inl (nI o)), (2, .inl (nI b)), (3, .inl (nI sj))], [.inr (.inr (mu_r H 158 2)), .inr (.inr (some 161))], H)) (C := [mu_is H (some 158) 8]) rfl (show mu_is H (some 158) 8 from (h.1.1.is rfl)) ?_
  rw [(h.1.1.r (p := 158) (j := 2) (q := 159) rfl)]
  refine mw_go mu_g350 (k := 2) (f1 := (28, [(4, .inr (.inr (some ql))), (0, .inr (.inr (some 158))), (1, .inl (nI o)), (2, .inl (nI b)), (3, .inl (nI sj))], [.inr (.inr (mu_r H 158 2)), .inr (.inr (some 159)), .inr (.inr (some 161))], H)) (C := [mu_is H (some 158) 8]) rfl (show mu_is H (some 158) 8 from (h.1.1.is rfl)) ?_
  rw [(h.1.1.r (p := 158) (j := 2) (q := 159) rfl)]
  refine mw_go mu_g350 (k := 1) (f1 := (31, [(4, .inr (.inr (some ql))), (0, .inr (.inr (some 158))), (1, .inl (nI o)), (2, .inl (nI b)), (3, .inl (nI sj))], [.inl (mu_i H 159 2), .inr (.inr (some 159)), .inr (.inr (some 161))], H)) (C := [mu_is H (some 159) 10]) rfl (show mu_is H (some 159) 10 from (h.1.1.is rfl)) ?_
  rw [(show mu_i H 159 2 = (nI sz) from (h.size e (j := 26) (by decide) rfl).trans (congrArg nI ((congrArg Prod.fst (show U.1 26 = (U.1 26) from rfl)).trans hz)))]
  refine mw_go mu_g350 (k := 2) (f1 := (33, [(4, .inr (.inr (some ql))), (0, .inr (.inr (some 158))), (1, .inl (nI o)), (2, .inl (nI b)), (3, .inl (nI sj))], [.inl ((nI sz) - (1 : Int32)), .inr (.inr (some 159)), .inr (.inr (some 161))], H)) (C := []) rfl trivial ?_
  rw [(show ((nI sz) - (1 : Int32)) = (nI (sz - 1)) from (nI_sub (a := sz) (b := 1) (by omega)))]
  refine mw_go mu_g350 (k := 1) (f1 := (34, [(4, .inr (.inr (some ql))), (0, .inr (.inr (some 158))), (1, .inl (nI o)), (2, .inl (nI b)), (3, .inl (nI sj))], [.inl (1 : Int32), .inl (nI (sz - 1)), .inr (.inr (some 159)), .inr (.inr (some 161))], H)) (C := []) rfl trivial ?_
  refine mw_cIe (fun _ => rfl) (show mu_is H (some 159) 10 from (h.1.1.is rfl)) (h.getr (d := (d + 4)) e (j := 26) (by decide) rfl (nI (sz - 1)) (c := 1) (by decide)) ?_
  rw [show (tget (U.1 26) (nI (sz - 1)) 1) = (nI jr) from ((congrArg (fun z => tget z (nI (sz - 1)) 1) (show U.1 26 = (U.1 26) from rfl)).trans (tget_nI (by first | omega | decide))).trans hrt]
  have ka4 : mu_r H 161 jr = some qr := (dR_pool e (Or.inl rfl) (plp161 (show jr < 248 by omega))).trans (LSN.ref (show LSN U 161 jr qr _ from hlr) (Or.inl rfl))
  refine mw_go mu_g350 (k := 1) (f1 := (38, [(4, .inr (.inr (some ql))), (0, .inr (.inr (some 158))), (1, .inl (nI o)), (2, .inl (nI b)), (3, .inl (nI sj))], [.inr (.inr (mu_r H 161 (nI jr).toNatClampNeg))], H)) (C := [mu_is H (some 161) (mu_k H 161), 103 ≤ mu_k H 161 ∧ mu_k H 161 ≤ 110 ∧ mu_k H 161 ≠ 108, vp_in (nI jr) (mu_n H 161)]) rfl (show (mu_is H (some 161) (mu_k H 161)) ∧ (103 ≤ mu_k H 161 ∧ mu_k H 161 ≤ 110 ∧ mu_k H 161 ≠ 108) ∧ (vp_in (nI jr) (mu_n H 161)) from ⟨(by have z := (h.1.1.a (p := 161) (x := (104, 248)) rfl).1; rw [show mu_k H 161 = 104 from z.2.2]; exact z), (by have z := (h.1.1.a (p := 161) (x := (104, 248)) rfl).1; rw [show mu_k H 161 = 104 from z.2.2]; decide), (by rw [show mu_n H 161 = 248 from (h.1.1.a (p := 161) (x := (104, 248)) rfl).2]; exact vp_in_nI (n := jr) (by omega) (by decide))⟩) ?_
  rw [show (mu_r H 161 (nI jr).toNatClampNeg) = (some qr) from (congrArg (mu_r H 161) (show (nI jr).toNatClampNeg = jr from nI_clamp (by omega))).trans ka4]
  refine mw_go mu_g350 (k := 5) (f1 := (44, [(5, .inr (.inr (some qr))), (4, .inr (.inr (some ql))), (0, .inr (.inr (some 158))), (1, .inl (nI o)), (2, .inl (nI b)), (3, .inl (nI sj))], [.inl ((nI sj) + (1 : Int32)), .inr (.inr (some 158))], H)) (C := []) rfl trivial ?_
  rw [(show ((nI sj) + (1 : Int32)) = (nI (sj + 1)) from (nI_add sj 1))]
  refine mw_go mu_g350 (k := 1) (f1 := (47, [(5, .inr (.inr (some qr))), (4, .inr (.inr (some ql))), (0, .inr (.inr (some 158))), (1, .inl (nI o)), (2, .inl (nI b)), (3, .inl (nI sj))], [], (mu_si H 158 4 (nI (sj + 1))))) (C := [mu_is H (some 158) 8]) rfl (show mu_is H (some 158) 8 from (h.1.1.is rfl)) ?_
  obtain ⟨u5, r5, d5⟩ : um m (mu_si H 158 4 (nI (sj + 1))) ∧ ur m C H (mu_si H 158 4 (nI (sj + 1))) ∧ ud m (mu_si H 158 4 (nI (sj + 1))) = (upI U 158 4 (nI (sj + 1))) := h.sI (C := C) e rfl
  generalize (mu_si H 158 4 (nI (sj + 1))) = Q5 at u5 r5 d5 ⊢
  have qf5 : uq F350j U (upI U 158 4 (nI (sj + 1))) := (uq.refl F350j U).I rfl
  have ht5 : ur m C H Q5 := (ur.refl m C H).trans r5
  refine mw_go mu_g350 (k := 2) (f1 := (51, [(5, .inr (.inr (some qr))), (4, .inr (.inr (some ql))), (0, .inr (.inr (some 158))), (1, .inl (nI o)), (2, .inl (nI b)), (3, .inl (nI sj))], [.inl (mu_i Q5 158 16)], Q5)) (C := [mu_is Q5 (some 158) 8]) rfl (show mu_is Q5 (some 158) 8 from (u5.1.1.is rfl)) ?_
  rw [(show mu_i Q5 158 16 = (nI at0) from (ud_i (U := (upI U 158 4 (nI (sj + 1)))) (m := m) (P := 158) (j := 16) d5 rfl).trans hat)]
  refine mw_go mu_g350 (k := 2) (f1 := (55, [(5, .inr (.inr (some qr))), (4, .inr (.inr (some ql))), (0, .inr (.inr (some 158))), (1, .inl (nI o)), (2, .inl (nI b)), (3, .inl (nI sj))], [.inl (mu_i Q5 158 17), .inl (nI at0)], Q5)) (C := [mu_is Q5 (some 158) 8]) rfl (show mu_is Q5 (some 158) 8 from (u5.1.1.is rfl)) ?_
  rw [(show mu_i Q5 158 17 = (nI to0) from (ud_i (U := (upI U 158 4 (nI (sj + 1)))) (m := m) (P := 158) (j := 17) d5 rfl).trans hto)]
  refine mw_if (P := (nI at0) = (nI to0)) (a := 58) (b := 60) (fun _ => rfl) trivial (fun h6 => absurd h6 (fun z => absurd ((nI_eq (by omega) (by omega)).mp (show nI at0 = nI to0 from z)) (by omega))) (fun h6 => ?_)
  refine mw_go mu_g350 (k := 1) (f1 := (61, [(5, .inr (.inr (some qr))), (4, .inr (.inr (some ql))), (0, .inr (.inr (some 158))), (1, .inl (nI o)), (2, .inl (nI b)), (3, .inl (nI sj))], [.inl (nI o)], Q5)) (C := []) rfl trivial ?_
  refine mw_cIe (fun _ => rfl) trivial ((pv_timed2 (d := (d + 4)) (H := Q5) (o := o) ho34).imp (fun x H1 q => show x = (1 : Int32) ∧ H1 = Q5 from ⟨(q.1.resolve_left (fun y => y.2 ho)).1, q.2⟩)) ?_
  refine mw_if (P := (1 : Int32) = 0) (a := 67) (b := 84) (fun _ => rfl) trivial (fun h8 => absurd h8 (by decide)) (fun h8 => ?_)
  refine mw_go mu_g350 (k := 3) (f1 := (89, [(5, .inr (.inr (some qr))), (4, .inr (.inr (some ql))), (0, .inr (.inr (some 158))), (1, .inl (nI o)), (2, .inl (nI b)), (3, .inl (nI sj))], [.inl (mu_i Q5 158 20), .inr (.inr (some 158))], Q5)) (C := [mu_is Q5 (some 158) 8]) rfl (show mu_is Q5 (some 158) 8 from (u5.1.1.is rfl)) ?_
  rw [(show mu_i Q5 158 20 = (nI 1) from (ud_i (U := (upI U 158 4 (nI (sj + 1)))) (m := m) (P := 158) (j := 20) d5 rfl).trans hsg)]
  refine mw_go mu_g350 (k := 2) (f1 := (91, [(5, .inr (.inr (some qr))), (4, .inr (.inr (some ql))), (0, .inr (.inr (some 158))), (1, .inl (nI o)), (2, .inl (nI b)), (3, .inl (nI sj))], [.inl ((nI 1) + (1 : Int32)), .inr (.inr (some 158))], Q5)) (C := []) rfl trivial ?_
  rw [(show ((nI 1) + (1 : Int32)) = (nI (1 + 1)) from (nI_add 1 1))]
  refine mw_go mu_g350 (k := 1) (f1 := (94, [(5, .inr (.inr (some qr))), (4, .inr (.inr (some ql))), (0, .inr (.inr (some 158))), (1, .inl (nI o)), (2, .inl (nI b)), (3, .inl (nI sj))], [], (mu_si Q5 158 20 (nI (1 + 1))))) (C := [mu_is Q5 (some 158) 8]) rfl (show mu_is Q5 (some 158) 8 from (u5.1.1.is rfl)) ?_
  obtain ⟨u9, r9, d9⟩ : um m (mu_si Q5 158 20 (nI (1 + 1))) ∧ ur m C Q5 (mu_si Q5 158 20 (nI (1 + 1))) ∧ ud m (mu_si Q5 158 20 (nI (1 + 1))) = (upI (upI U 158 4 (nI (sj + 1))) 158 20 (nI (1 + 1))) := u5.sI (C := C) d5 rfl
  generalize (mu_si Q5 158 20 (nI (1 + 1))) = Q9 at u9 r9 d9 ⊢
  have qf9 : uq F350j U (upI (upI U 158 4 (nI (sj + 1))) 158 20 (nI (1 + 1))) := qf5.I rfl
  have ht9 : ur m C H Q9 := ht5.trans r9
  refine mw_go mu_g350 (k := 2) (f1 := (98, [(5, .inr (.inr (some qr))), (4, .inr (.inr (some ql))), (0, .inr (.inr (some 158))), (1, .inl (nI o)), (2, .inl (nI b)), (3, .inl (nI sj))], [.inl (mu_i Q9 158 20)], Q9)) (C := [mu_is Q9 (some 158) 8]) rfl (show mu_is Q9 (some 158) 8 from (u9.1.1.is rfl)) ?_
  rw [(show mu_i Q9 158 20 = (nI (1 + 1)) from (ud_i (U := (upI (upI U 158 4 (nI (sj + 1))) 158 20 (nI (1 + 1)))) (m := m) (P := 158) (j := 20) d9 rfl))]
  refine mw_go mu_g350 (k := 1) (f1 := (99, [(5, .inr (.inr (some qr))), (4, .inr (.inr (some ql))), (0, .inr (.inr (some 158))), (1, .inl (nI o)), (2, .inl (nI b)), (3, .inl (nI sj))], [.inl (1 : Int32), .inl (nI (1 + 1))], Q9)) (C := []) rfl trivial ?_
  refine mw_if (P := (nI (1 + 1)) = (1 : Int32)) (a := 102) (b := 146) (fun _ => rfl) trivial (fun h10 => absurd h10 (by decide)) (fun h10 => ?_)
  refine mw_go mu_g350 (k := 2) (f1 := (150, [(5, .inr (.inr (some qr))), (4, .inr (.inr (some ql))), (0, .inr (.inr (some 158))), (1, .inl (nI o)), (2, .inl (nI b)), (3, .inl (nI sj))], [.inl (mu_i Q9 158 20)], Q9)) (C := [mu_is Q9 (some 158) 8]) rfl (show mu_is Q9 (some 158) 8 from (u9.1.1.is rfl)) ?_
  rw [(show mu_i Q9 158 20 = (nI (1 + 1)) from (ud_i (U := (upI (upI U 158 4 (nI (sj + 1))) 158 20 (nI (1 + 1)))) (m := m) (P := 158) (j := 20) d9 rfl))]
  refine mw_go mu_g350 (k := 1) (f1 := (151, [(5, .inr (.inr (some qr))), (4, .inr (.inr (some ql))), (0, .inr (.inr (some 158))), (1, .inl (nI o)), (2, .inl (nI b)), (3, .inl (nI sj))], [.inl (2 : Int32), .inl (nI (1 + 1))], Q9)) (C := []) rfl trivial ?_
  refine mw_if (P := (nI (1 + 1)) = (2 : Int32)) (a := 154) (b := 183) (fun _ => rfl) trivial (fun h11 => ?_) (fun h11 => absurd (by decide) h11)
  refine mw_go mu_g350 (k := 2) (f1 := (157, [(5, .inr (.inr (some qr))), (4, .inr (.inr (some ql))), (0, .inr (.inr (some 158))), (1, .inl (nI o)), (2, .inl (nI b)), (3, .inl (nI sj))], [.inl (29 : Int32), .inl (nI o)], Q9)) (C := []) rfl trivial ?_
  refine mw_if (P := (nI o) = (29 : Int32)) (a := 160) (b := 183) (fun _ => rfl) trivial (fun h12 => ?_) (fun h12 => absurd (by rw [ho29]; rfl) h12)
  refine mw_go mu_g350 (k := 2) (f1 := (164, [(5, .inr (.inr (some qr))), (4, .inr (.inr (some ql))), (0, .inr (.inr (some 158))), (1, .inl (nI o)), (2, .inl (nI b)), (3, .inl (nI sj))], [.inr (.inr (mu_r Q9 158 1))], Q9)) (C := [mu_is Q9 (some 158) 8]) rfl (show mu_is Q9 (some 158) 8 from (u9.1.1.is rfl)) ?_
  rw [(u9.1.1.r (p := 158) (j := 1) (q := 147) rfl)]
  refine mw_go mu_g350 (k := 3) (f1 := (170, [(5, .inr (.inr (some qr))), (4, .inr (.inr (some ql))), (0, .inr (.inr (some 158))), (1, .inl (nI o)), (2, .inl (nI b)), (3, .inl (nI sj))], [.inr (.inr (mu_r Q9 158 5)), .inl (12 : Int32), .inr (.inr (some 147))], Q9)) (C := [mu_is Q9 (some 158) 8]) rfl (show mu_is Q9 (some 158) 8 from (u9.1.1.is rfl)) ?_
  rw [(u9.1.1.r (p := 158) (j := 5) (q := 162) rfl)]
  refine mw_go mu_g350 (k := 2) (f1 := (174, [(5, .inr (.inr (some qr))), (4, .inr (.inr (some ql))), (0, .inr (.inr (some 158))), (1, .inl (nI o)), (2, .inl (nI b)), (3, .inl (nI sj))], [.inr (.inr (mu_r Q9 158 5)), .inr (.inr (some 162)), .inl (12 : Int32), .inr (.inr (some 147))], Q9)) (C := [mu_is Q9 (some 158) 8]) rfl (show mu_is Q9 (some 158) 8 from (u9.1.1.is rfl)) ?_
  rw [(u9.1.1.r (p := 158) (j := 5) (q := 162) rfl)]
  refine mw_go mu_g350 (k := 2) (f1 := (178, [(5, .inr (.inr (some qr))), (4, .inr (.inr (some ql))), (0, .inr (.inr (some 158))), (1, .inl (nI o)), (2, .inl (nI b)), (3, .inl (nI sj))], [.inr (.inr (mu_r Q9 158 5)), .inr (.inr (some 162)), .inr (.inr (some 162)), .inl (12 : Int32), .inr (.inr (some 147))], Q9)) (C := [mu_is Q9 (some 158) 8]) rfl (show mu_is Q9 (some 158) 8 from (u9.1.1.is rfl)) ?_
  rw [(u9.1.1.r (p := 158) (j := 5) (q := 162) rfl)]
  refine mw_cV (fun _ => rfl) (show mu_is Q9 (some 147) 2 from (u9.1.1.is rfl)) (gr_reckon (d := d) (C := C) (ga := 0) (gi := 162) (gq := 162) (op := 12) (RB := RB) u9 d9 (show GRB (upI (upI U 158 4 (nI (sj + 1))) 158 20 (nI (1 + 1))) T R wn rx mb me from hG) (show FST (upI (upI U 158 4 (nI (sj + 1))) 158 20 (nI (1 + 1))) nf T FS from hF.eq rfl rfl (fun _ => rfl)) (Or.inl ⟨rfl, rfl, Or.inr rfl, rfl⟩) (fun z => absurd z.2 (by decide)) (Or.inr (Or.inl rfl)) (fun s hs y => hAT s hs (rka162 y)) hRB) (fun Q13 q13 => ?_)
  obtain ⟨u13, r13, z13, gk13, hrk⟩ := q13
  have ht13 : ur m C H Q13 := ht9.trans r13
  refine mw_go mu_g350 (k := 1) (f1 := (182, [(5, .inr (.inr (some qr))), (4, .inr (.inr (some ql))), (0, .inr (.inr (some 158))), (1, .inl (nI o)), (2, .inl (nI b)), (3, .inl (nI sj))], [.inl (1 : Int32)], Q13)) (C := []) rfl trivial ?_
  exact mw_of (fun _ => mu_ret rfl (Or.inr rfl) ⟨(1 : Int32), Q13, rfl, rfl, u13, ht13, (upI (upI U 158 4 (nI (sj + 1))) 158 20 (nI (1 + 1))), rfl, z13, gk13, hrk⟩)
theorem pr_comb4 (h : um m H) (e : ud m H = U) (hz : (U.1 26).1 = sz) (hzb : sz < 2147483647) (hbz : b < sz) (hrb : (U.1 26).2 b 1 = nI jl) (hrt : (U.1 26).2 (sz - 1) 1 = nI jr) (hjl : jl < 248) (hjr : jr < 248) (hsj : sj < 248) (hll : LSN U 161 jl ql 256) (hlr : LSN U 161 jr qr 256) (hls : LSN U 161 sj qs 256) (hat : U.2.1 158 16 = nI at0) (hw12 : U.2.1 99 12 = nI wn) (hwn : wn ≤ 256) (ho34 : o ≤ 34) (hto : U.2.1 158 17 = nI to0) (hne : at0 < to0) (htb : to0 < 2147483648) (ho : tmd o) (hn29 : ¬ o = 29) (hsg : U.2.1 158 20 = nI 1) : mu_TI (mu_D (d + 6)) 350 [.inr (.inr (some 158)), .inl (nI o), .inl (nI b), .inl (nI sj)] H (fun x H1 => x = 0 ∧ um m H1 ∧ ur m C H H1 ∧ uq F350j U (ud m H1) ∧ GKQ 161 sj U (ud m H1) ∧ (ud m H1).2.2.2.2.1 148 = U.2.2.2.2.1 148 ∧ (ud m H1).2.2.2.2.1 162 = U.2.2.2.2.1 162 ∧ (ud m H1).2.1 158 4 = nI (sj + 1) ∧ (ud m H1).2.1 158 20 = nI 0 ∧ ∀ i, i < wn → lgf (ud m H1) 161 sj i = fnw o (lgf U 161 sj i) (U.2.2.2.2.1 162 i) (U.2.2.2.2.1 124 i)) := by
  refine mu_meth (M := mu_m350) rfl rfl ?_
  refine mw_ht (mu_fn_of (show [0, 1, 2, 3].Nodup by decide)) ?_
  refine mw_go mu_g350 (k := 2) (f1 := (4, [(0, .inr (.inr (some 158))), (1, .inl (nI o)), (2, .inl (nI b)), (3, .inl (nI sj))], [.inr (.inr (mu_r H 158 3))], H)) (C := [mu_is H (some 158) 8]) rfl (show mu_is H (some 158) 8 from (h.1.1.is rfl)) ?_
  rw [(h.1.1.r (p := 158) (j := 3) (q := 161) rfl)]
  refine mw_go mu_g350 (k := 2) (f1 := (8, [(0, .inr (.inr (some 158))), (1, .inl (nI o)), (2, .inl (nI b)), (3, .inl (nI sj))], [.inr (.inr (mu_r H 158 2)), .inr (.inr (some 161))], H)) (C := [mu_is H (some 158) 8]) rfl (show mu_is H (some 158) 8 from (h.1.1.is rfl)) ?_
  rw [(h.1.1.r (p := 158) (j := 2) (q := 159) rfl)]
  refine mw_go mu_g350 (k := 2) (f1 := (10, [(0, .inr (.inr (some 158))), (1, .inl (nI o)), (2, .inl (nI b)), (3, .inl (nI sj))], [.inl (1 : Int32), .inl (nI b), .inr (.inr (some 159)), .inr (.inr (some 161))], H)) (C := []) rfl trivial ?_
  refine mw_cIe (fun _ => rfl) (show mu_is H (some 159) 10 from (h.1.1.is rfl)) (h.getr (d := (d + 4)) e (j := 26) (by decide) rfl (nI b) (c := 1) (by decide)) ?_
  rw [show (tget (U.1 26) (nI b) 1) = (nI jl) from ((congrArg (fun z => tget z (nI b) 1) (show U.1 26 = (U.1 26) from rfl)).trans (tget_nI (by first | omega | decide))).trans hrb]
  have ka2 : mu_r H 161 jl = some ql := (dR_pool e (Or.inl rfl) (plp161 (show jl < 248 by omega))).trans (LSN.ref (show LSN U 161 jl ql _ from hll) (Or.inl rfl))
  refine mw_go mu_g350 (k := 1) (f1 := (14, [(0, .inr (.inr (some 158))), (1, .inl (nI o)), (2, .inl (nI b)), (3, .inl (nI sj))], [.inr (.inr (mu_r H 161 (nI jl).toNatClampNeg))], H)) (C := [mu_is H (some 161) (mu_k H 161), 103 ≤ mu_k H 161 ∧ mu_k H 161 ≤ 110 ∧ mu_k H 161 ≠ 108, vp_in (nI jl) (mu_n H 161)]) rfl (show (mu_is H (some 161) (mu_k H 161)) ∧ (103 ≤ mu_k H 161 ∧ mu_k H 161 ≤ 110 ∧ mu_k H 161 ≠ 108) ∧ (vp_in (nI jl) (mu_n H 161)) from ⟨(by have z := (h.1.1.a (p := 161) (x := (104, 248)) rfl).1; rw [show mu_k H 161 = 104 from z.2.2]; exact z), (by have z := (h.1.1.a (p := 161) (x := (104, 248)) rfl).1; rw [show mu_k H 161 = 104 from z.2.2]; decide), (by rw [show mu_n H 161 = 248 from (h.1.1.a (p := 161) (x := (104, 248)) rfl).2]; exact vp_in_nI (n := jl) (by omega) (by decide))⟩) ?_
  rw [show (mu_r H 161 (nI jl).toNatClampNeg) = (some ql) from (congrArg (mu_r H 161) (show (nI jl).toNatClampNeg = jl from nI_clamp (by omega))).trans ka2]
  refine mw_go mu_g350 (k := 3) (f1 := (20, [(4, .inr (.inr (some ql))), (0, .inr (.inr (some 158))), (1, .inl (nI o)), (2, .inl (nI b)), (3, .inl (nI sj))], [.inr (.inr (mu_r H 158 3))], H)) (C := [mu_is H (some 158) 8]) rfl (show mu_is H (some 158) 8 from (h.1.1.is rfl)) ?_
  rw [(h.1.1.r (p := 158) (j := 3) (q := 161) rfl)]
  refine mw_go mu_g350 (k := 2) (f1 := (24, [(4, .inr (.inr (some ql))), (0, .inr (.inr (some 158))), (1, .inl (nI o)), (2, .inl (nI b)), (3, .inl (nI sj))], [.inr (.inr (mu_r H 158 2)), .inr (.inr (some 161))], H)) (C := [mu_is H (some 158) 8]) rfl (show mu_is H (some 158) 8 from (h.1.1.is rfl)) ?_
  rw [(h.1.1.r (p := 158) (j := 2) (q := 159) rfl)]
  refine mw_go mu_g350 (k := 2) (f1 := (28, [(4, .inr (.inr (some ql))), (0, .inr (.inr (some 158))), (1, .inl (nI o)), (2, .inl (nI b)), (3, .inl (nI sj))], [.inr (.inr (mu_r H 158 2)), .inr (.inr (some 159)), .inr (.inr (some 161))], H)) (C := [mu_is H (some 158) 8]) rfl (show mu_is H (some 158) 8 from (h.1.1.is rfl)) ?_
  rw [(h.1.1.r (p := 158) (j := 2) (q := 159) rfl)]
  refine mw_go mu_g350 (k := 1) (f1 := (31, [(4, .inr (.inr (some ql))), (0, .inr (.inr (some 158))), (1, .inl (nI o)), (2, .inl (nI b)), (3, .inl (nI sj))], [.inl (mu_i H 159 2), .inr (.inr (some 159)), .inr (.inr (some 161))], H)) (C := [mu_is H (some 159) 10]) rfl (show mu_is H (some 159) 10 from (h.1.1.is rfl)) ?_
  rw [(show mu_i H 159 2 = (nI sz) from (h.size e (j := 26) (by decide) rfl).trans (congrArg nI ((congrArg Prod.fst (show U.1 26 = (U.1 26) from rfl)).trans hz)))]
  refine mw_go mu_g350 (k := 2) (f1 := (33, [(4, .inr (.inr (some ql))), (0, .inr (.inr (some 158))), (1, .inl (nI o)), (2, .inl (nI b)), (3, .inl (nI sj))], [.inl ((nI sz) - (1 : Int32)), .inr (.inr (some 159)), .inr (.inr (some 161))], H)) (C := []) rfl trivial ?_
  rw [(show ((nI sz) - (1 : Int32)) = (nI (sz - 1)) from (nI_sub (a := sz) (b := 1) (by omega)))]
  refine mw_go mu_g350 (k := 1) (f1 := (34, [(4, .inr (.inr (some ql))), (0, .inr (.inr (some 158))), (1, .inl (nI o)), (2, .inl (nI b)), (3, .inl (nI sj))], [.inl (1 : Int32), .inl (nI (sz - 1)), .inr (.inr (some 159)), .inr (.inr (some 161))], H)) (C := []) rfl trivial ?_
  refine mw_cIe (fun _ => rfl) (show mu_is H (some 159) 10 from (h.1.1.is rfl)) (h.getr (d := (d + 4)) e (j := 26) (by decide) rfl (nI (sz - 1)) (c := 1) (by decide)) ?_
  rw [show (tget (U.1 26) (nI (sz - 1)) 1) = (nI jr) from ((congrArg (fun z => tget z (nI (sz - 1)) 1) (show U.1 26 = (U.1 26) from rfl)).trans (tget_nI (by first | omega | decide))).trans hrt]
  have ka4 : mu_r H 161 jr = some qr := (dR_pool e (Or.inl rfl) (plp161 (show jr < 248 by omega))).trans (LSN.ref (show LSN U 161 jr qr _ from hlr) (Or.inl rfl))
  refine mw_go mu_g350 (k := 1) (f1 := (38, [(4, .inr (.inr (some ql))), (0, .inr (.inr (some 158))), (1, .inl (nI o)), (2, .inl (nI b)), (3, .inl (nI sj))], [.inr (.inr (mu_r H 161 (nI jr).toNatClampNeg))], H)) (C := [mu_is H (some 161) (mu_k H 161), 103 ≤ mu_k H 161 ∧ mu_k H 161 ≤ 110 ∧ mu_k H 161 ≠ 108, vp_in (nI jr) (mu_n H 161)]) rfl (show (mu_is H (some 161) (mu_k H 161)) ∧ (103 ≤ mu_k H 161 ∧ mu_k H 161 ≤ 110 ∧ mu_k H 161 ≠ 108) ∧ (vp_in (nI jr) (mu_n H 161)) from ⟨(by have z := (h.1.1.a (p := 161) (x := (104, 248)) rfl).1; rw [show mu_k H 161 = 104 from z.2.2]; exact z), (by have z := (h.1.1.a (p := 161) (x := (104, 248)) rfl).1; rw [show mu_k H 161 = 104 from z.2.2]; decide), (by rw [show mu_n H 161 = 248 from (h.1.1.a (p := 161) (x := (104, 248)) rfl).2]; exact vp_in_nI (n := jr) (by omega) (by decide))⟩) ?_
  rw [show (mu_r H 161 (nI jr).toNatClampNeg) = (some qr) from (congrArg (mu_r H 161) (show (nI jr).toNatClampNeg = jr from nI_clamp (by omega))).trans ka4]
  refine mw_go mu_g350 (k := 5) (f1 := (44, [(5, .inr (.inr (some qr))), (4, .inr (.inr (some ql))), (0, .inr (.inr (some 158))), (1, .inl (nI o)), (2, .inl (nI b)), (3, .inl (nI sj))], [.inl ((nI sj) + (1 : Int32)), .inr (.inr (some 158))], H)) (C := []) rfl trivial ?_
  rw [(show ((nI sj) + (1 : Int32)) = (nI (sj + 1)) from (nI_add sj 1))]
  refine mw_go mu_g350 (k := 1) (f1 := (47, [(5, .inr (.inr (some qr))), (4, .inr (.inr (some ql))), (0, .inr (.inr (some 158))), (1, .inl (nI o)), (2, .inl (nI b)), (3, .inl (nI sj))], [], (mu_si H 158 4 (nI (sj + 1))))) (C := [mu_is H (some 158) 8]) rfl (show mu_is H (some 158) 8 from (h.1.1.is rfl)) ?_
  obtain ⟨u5, r5, d5⟩ : um m (mu_si H 158 4 (nI (sj + 1))) ∧ ur m C H (mu_si H 158 4 (nI (sj + 1))) ∧ ud m (mu_si H 158 4 (nI (sj + 1))) = (upI U 158 4 (nI (sj + 1))) := h.sI (C := C) e rfl
  generalize (mu_si H 158 4 (nI (sj + 1))) = Q5 at u5 r5 d5 ⊢
  have qf5 : uq F350j U (upI U 158 4 (nI (sj + 1))) := (uq.refl F350j U).I rfl
  have ht5 : ur m C H Q5 := (ur.refl m C H).trans r5
  refine mw_go mu_g350 (k := 2) (f1 := (51, [(5, .inr (.inr (some qr))), (4, .inr (.inr (some ql))), (0, .inr (.inr (some 158))), (1, .inl (nI o)), (2, .inl (nI b)), (3, .inl (nI sj))], [.inl (mu_i Q5 158 16)], Q5)) (C := [mu_is Q5 (some 158) 8]) rfl (show mu_is Q5 (some 158) 8 from (u5.1.1.is rfl)) ?_
  rw [(show mu_i Q5 158 16 = (nI at0) from (ud_i (U := (upI U 158 4 (nI (sj + 1)))) (m := m) (P := 158) (j := 16) d5 rfl).trans hat)]
  refine mw_go mu_g350 (k := 2) (f1 := (55, [(5, .inr (.inr (some qr))), (4, .inr (.inr (some ql))), (0, .inr (.inr (some 158))), (1, .inl (nI o)), (2, .inl (nI b)), (3, .inl (nI sj))], [.inl (mu_i Q5 158 17), .inl (nI at0)], Q5)) (C := [mu_is Q5 (some 158) 8]) rfl (show mu_is Q5 (some 158) 8 from (u5.1.1.is rfl)) ?_
  rw [(show mu_i Q5 158 17 = (nI to0) from (ud_i (U := (upI U 158 4 (nI (sj + 1)))) (m := m) (P := 158) (j := 17) d5 rfl).trans hto)]
  refine mw_if (P := (nI at0) = (nI to0)) (a := 58) (b := 60) (fun _ => rfl) trivial (fun h6 => absurd h6 (fun z => absurd ((nI_eq (by omega) (by omega)).mp (show nI at0 = nI to0 from z)) (by omega))) (fun h6 => ?_)
  refine mw_go mu_g350 (k := 1) (f1 := (61, [(5, .inr (.inr (some qr))), (4, .inr (.inr (some ql))), (0, .inr (.inr (some 158))), (1, .inl (nI o)), (2, .inl (nI b)), (3, .inl (nI sj))], [.inl (nI o)], Q5)) (C := []) rfl trivial ?_
  refine mw_cIe (fun _ => rfl) trivial ((pv_timed2 (d := (d + 4)) (H := Q5) (o := o) ho34).imp (fun x H1 q => show x = (1 : Int32) ∧ H1 = Q5 from ⟨(q.1.resolve_left (fun y => y.2 ho)).1, q.2⟩)) ?_
  refine mw_if (P := (1 : Int32) = 0) (a := 67) (b := 84) (fun _ => rfl) trivial (fun h8 => absurd h8 (by decide)) (fun h8 => ?_)
  refine mw_go mu_g350 (k := 3) (f1 := (89, [(5, .inr (.inr (some qr))), (4, .inr (.inr (some ql))), (0, .inr (.inr (some 158))), (1, .inl (nI o)), (2, .inl (nI b)), (3, .inl (nI sj))], [.inl (mu_i Q5 158 20), .inr (.inr (some 158))], Q5)) (C := [mu_is Q5 (some 158) 8]) rfl (show mu_is Q5 (some 158) 8 from (u5.1.1.is rfl)) ?_
  rw [(show mu_i Q5 158 20 = (nI 1) from (ud_i (U := (upI U 158 4 (nI (sj + 1)))) (m := m) (P := 158) (j := 20) d5 rfl).trans hsg)]
  refine mw_go mu_g350 (k := 2) (f1 := (91, [(5, .inr (.inr (some qr))), (4, .inr (.inr (some ql))), (0, .inr (.inr (some 158))), (1, .inl (nI o)), (2, .inl (nI b)), (3, .inl (nI sj))], [.inl ((nI 1) + (1 : Int32)), .inr (.inr (some 158))], Q5)) (C := []) rfl trivial ?_
  rw [(show ((nI 1) + (1 : Int32)) = (nI (1 + 1)) from (nI_add 1 1))]
  refine mw_go mu_g350 (k := 1) (f1 := (94, [(5, .inr (.inr (some qr))), (4, .inr (.inr (some ql))), (0, .inr (.inr (some 158))), (1, .inl (nI o)), (2, .inl (nI b)), (3, .inl (nI sj))], [], (mu_si Q5 158 20 (nI (1 + 1))))) (C := [mu_is Q5 (some 158) 8]) rfl (show mu_is Q5 (some 158) 8 from (u5.1.1.is rfl)) ?_
  obtain ⟨u9, r9, d9⟩ : um m (mu_si Q5 158 20 (nI (1 + 1))) ∧ ur m C Q5 (mu_si Q5 158 20 (nI (1 + 1))) ∧ ud m (mu_si Q5 158 20 (nI (1 + 1))) = (upI (upI U 158 4 (nI (sj + 1))) 158 20 (nI (1 + 1))) := u5.sI (C := C) d5 rfl
  generalize (mu_si Q5 158 20 (nI (1 + 1))) = Q9 at u9 r9 d9 ⊢
  have qf9 : uq F350j U (upI (upI U 158 4 (nI (sj + 1))) 158 20 (nI (1 + 1))) := qf5.I rfl
  have ht9 : ur m C H Q9 := ht5.trans r9
  refine mw_go mu_g350 (k := 2) (f1 := (98, [(5, .inr (.inr (some qr))), (4, .inr (.inr (some ql))), (0, .inr (.inr (some 158))), (1, .inl (nI o)), (2, .inl (nI b)), (3, .inl (nI sj))], [.inl (mu_i Q9 158 20)], Q9)) (C := [mu_is Q9 (some 158) 8]) rfl (show mu_is Q9 (some 158) 8 from (u9.1.1.is rfl)) ?_
  rw [(show mu_i Q9 158 20 = (nI (1 + 1)) from (ud_i (U := (upI (upI U 158 4 (nI (sj + 1))) 158 20 (nI (1 + 1)))) (m := m) (P := 158) (j := 20) d9 rfl))]
  refine mw_go mu_g350 (k := 1) (f1 := (99, [(5, .inr (.inr (some qr))), (4, .inr (.inr (some ql))), (0, .inr (.inr (some 158))), (1, .inl (nI o)), (2, .inl (nI b)), (3, .inl (nI sj))], [.inl (1 : Int32), .inl (nI (1 + 1))], Q9)) (C := []) rfl trivial ?_
  refine mw_if (P := (nI (1 + 1)) = (1 : Int32)) (a := 102) (b := 146) (fun _ => rfl) trivial (fun h10 => absurd h10 (by decide)) (fun h10 => ?_)
  refine mw_go mu_g350 (k := 2) (f1 := (150, [(5, .inr (.inr (some qr))), (4, .inr (.inr (some ql))), (0, .inr (.inr (some 158))), (1, .inl (nI o)), (2, .inl (nI b)), (3, .inl (nI sj))], [.inl (mu_i Q9 158 20)], Q9)) (C := [mu_is Q9 (some 158) 8]) rfl (show mu_is Q9 (some 158) 8 from (u9.1.1.is rfl)) ?_
  rw [(show mu_i Q9 158 20 = (nI (1 + 1)) from (ud_i (U := (upI (upI U 158 4 (nI (sj + 1))) 158 20 (nI (1 + 1)))) (m := m) (P := 158) (j := 20) d9 rfl))]
  refine mw_go mu_g350 (k := 1) (f1 := (151, [(5, .inr (.inr (some qr))), (4, .inr (.inr (some ql))), (0, .inr (.inr (some 158))), (1, .inl (nI o)), (2, .inl (nI b)), (3, .inl (nI sj))], [.inl (2 : Int32), .inl (nI (1 + 1))], Q9)) (C := []) rfl trivial ?_
  refine mw_if (P := (nI (1 + 1)) = (2 : Int32)) (a := 154) (b := 183) (fun _ => rfl) trivial (fun h11 => ?_) (fun h11 => absurd (by decide) h11)
  refine mw_go mu_g350 (k := 2) (f1 := (157, [(5, .inr (.inr (some qr))), (4, .inr (.inr (some ql))), (0, .inr (.inr (some 158))), (1, .inl (nI o)), (2, .inl (nI b)), (3, .inl (nI sj))], [.inl (29 : Int32), .inl (nI o)], Q9)) (C := []) rfl trivial ?_
  refine mw_if (P := (nI o) = (29 : Int32)) (a := 160) (b := 183) (fun _ => rfl) trivial (fun h12 => absurd h12 (fun z => hn29 ((nI_eq (by omega) (by omega)).mp (show nI o = nI 29 from z)))) (fun h12 => ?_)
  refine mw_go mu_g350 (k := 3) (f1 := (188, [(5, .inr (.inr (some qr))), (4, .inr (.inr (some ql))), (0, .inr (.inr (some 158))), (1, .inl (nI o)), (2, .inl (nI b)), (3, .inl (nI sj))], [], (mu_si Q9 158 20 (0 : Int32)))) (C := [mu_is Q9 (some 158) 8]) rfl (show mu_is Q9 (some 158) 8 from (u9.1.1.is rfl)) ?_
  obtain ⟨u13, r13, d13⟩ : um m (mu_si Q9 158 20 (0 : Int32)) ∧ ur m C Q9 (mu_si Q9 158 20 (0 : Int32)) ∧ ud m (mu_si Q9 158 20 (0 : Int32)) = (upI (upI (upI U 158 4 (nI (sj + 1))) 158 20 (nI (1 + 1))) 158 20 (0 : Int32)) := u9.sI (C := C) d9 rfl
  generalize (mu_si Q9 158 20 (0 : Int32)) = Q13 at u13 r13 d13 ⊢
  have qf13 : uq F350j U (upI (upI (upI U 158 4 (nI (sj + 1))) 158 20 (nI (1 + 1))) 158 20 (0 : Int32)) := qf9.I rfl
  have ht13 : ur m C H Q13 := ht9.trans r13
  refine mw_go mu_g350 (k := 4) (f1 := (194, [(5, .inr (.inr (some qr))), (4, .inr (.inr (some ql))), (0, .inr (.inr (some 158))), (1, .inl (nI o)), (2, .inl (nI b)), (3, .inl (nI sj))], [.inr (.inr (mu_r Q13 158 3)), .inl (nI o), .inr (.inr (some 158))], Q13)) (C := [mu_is Q13 (some 158) 8]) rfl (show mu_is Q13 (some 158) 8 from (u13.1.1.is rfl)) ?_
  rw [(u13.1.1.r (p := 158) (j := 3) (q := 161) rfl)]
  refine mw_go mu_g350 (k := 1) (f1 := (195, [(5, .inr (.inr (some qr))), (4, .inr (.inr (some ql))), (0, .inr (.inr (some 158))), (1, .inl (nI o)), (2, .inl (nI b)), (3, .inl (nI sj))], [.inl (nI sj), .inr (.inr (some 161)), .inl (nI o), .inr (.inr (some 158))], Q13)) (C := []) rfl trivial ?_
  have ka14 : mu_r Q13 161 sj = some qs := (dR_pool d13 (Or.inl rfl) (plp161 (show sj < 248 by omega))).trans (LSN.ref (show LSN (upI (upI (upI U 158 4 (nI (sj + 1))) 158 20 (nI (1 + 1))) 158 20 (0 : Int32)) 161 sj qs _ from (hls.keep (fun b c hb => by rcases hb with rfl | rfl <;> rfl) rfl)) (Or.inl rfl))
  refine mw_go mu_g350 (k := 1) (f1 := (196, [(5, .inr (.inr (some qr))), (4, .inr (.inr (some ql))), (0, .inr (.inr (some 158))), (1, .inl (nI o)), (2, .inl (nI b)), (3, .inl (nI sj))], [.inr (.inr (mu_r Q13 161 (nI sj).toNatClampNeg)), .inl (nI o), .inr (.inr (some 158))], Q13)) (C := [mu_is Q13 (some 161) (mu_k Q13 161), 103 ≤ mu_k Q13 161 ∧ mu_k Q13 161 ≤ 110 ∧ mu_k Q13 161 ≠ 108, vp_in (nI sj) (mu_n Q13 161)]) rfl (show (mu_is Q13 (some 161) (mu_k Q13 161)) ∧ (103 ≤ mu_k Q13 161 ∧ mu_k Q13 161 ≤ 110 ∧ mu_k Q13 161 ≠ 108) ∧ (vp_in (nI sj) (mu_n Q13 161)) from ⟨(by have z := (u13.1.1.a (p := 161) (x := (104, 248)) rfl).1; rw [show mu_k Q13 161 = 104 from z.2.2]; exact z), (by have z := (u13.1.1.a (p := 161) (x := (104, 248)) rfl).1; rw [show mu_k Q13 161 = 104 from z.2.2]; decide), (by rw [show mu_n Q13 161 = 248 from (u13.1.1.a (p := 161) (x := (104, 248)) rfl).2]; exact vp_in_nI (n := sj) (by omega) (by decide))⟩) ?_
  rw [show (mu_r Q13 161 (nI sj).toNatClampNeg) = (some qs) from (congrArg (mu_r Q13 161) (show (nI sj).toNatClampNeg = sj from nI_clamp (by omega))).trans ka14]
  refine mw_cV (fun _ => rfl) (show mu_is Q13 (some 158) 8 from (u13.1.1.is rfl)) (pr_finish (d := (d + 3)) (C := C) (jo := sj) u13 d13 (show (upI (upI (upI U 158 4 (nI (sj + 1))) 158 20 (nI (1 + 1))) 158 20 (0 : Int32)).2.1 99 12 = nI wn from hw12) hwn ho34 (hls.keep (fun b c hb => by rcases hb with rfl | rfl <;> rfl) rfl)) (fun Q15 q15 => ?_)
  obtain ⟨u15, r15, z15, gx0, hx48, hx62, hxw⟩ := q15
  have ht15 : ur m C H Q15 := ht13.trans r15
  obtain ⟨X0, d15⟩ : ∃ V, ud m Q15 = V := ⟨_, rfl⟩
  rw [d15] at z15 gx0 hx48 hx62 hxw
  have gx0 : GKQ 161 sj U X0 := gx0
  have hx48 : X0.2.2.2.2.1 148 = U.2.2.2.2.1 148 := hx48
  have qx0 : uq F350j U X0 := qf13.tr z15 rfl
  refine mw_go mu_g350 (k := 1) (f1 := (200, [(5, .inr (.inr (some qr))), (4, .inr (.inr (some ql))), (0, .inr (.inr (some 158))), (1, .inl (nI o)), (2, .inl (nI b)), (3, .inl (nI sj))], [.inl (0 : Int32)], Q15)) (C := []) rfl trivial ?_
  exact mw_of (fun _ => mu_ret rfl (Or.inl rfl) ⟨(0 : Int32), Q15, rfl, rfl, u15, ht15, (by rw [d15]; exact ⟨qx0, gx0, hx48, hx62, ((z15.i 158 4 rfl)).trans rfl, ((z15.i 158 20 rfl)).trans rfl, hxw⟩)⟩)
theorem pr_comb5 (h : um m H) (e : ud m H = U) (hz : (U.1 26).1 = sz) (hzb : sz < 2147483647) (hbz : b < sz) (hrb : (U.1 26).2 b 1 = nI jl) (hrt : (U.1 26).2 (sz - 1) 1 = nI jr) (hjl : jl < 248) (hjr : jr < 248) (hsj : sj < 248) (hll : LSN U 161 jl ql 256) (hlr : LSN U 161 jr qr 256) (hls : LSN U 161 sj qs 256) (hat : U.2.1 158 16 = nI at0) (hw12 : U.2.1 99 12 = nI wn) (hwn : wn ≤ 256) (ho34 : o ≤ 34) (hto : U.2.1 158 17 = nI to0) (hne : at0 < to0) (htb : to0 < 2147483648) (ho : tmd o) (hsg : U.2.1 158 20 = nI 2) : mu_TI (mu_D (d + 6)) 350 [.inr (.inr (some 158)), .inl (nI o), .inl (nI b), .inl (nI sj)] H (fun x H1 => x = 0 ∧ um m H1 ∧ ur m C H H1 ∧ uq F350j U (ud m H1) ∧ GKQ 161 sj U (ud m H1) ∧ (ud m H1).2.2.2.2.1 148 = U.2.2.2.2.1 148 ∧ (ud m H1).2.2.2.2.1 162 = U.2.2.2.2.1 162 ∧ (ud m H1).2.1 158 4 = nI (sj + 1) ∧ (ud m H1).2.1 158 20 = nI 0 ∧ ∀ i, i < wn → lgf (ud m H1) 161 sj i = fnw o (lgf U 161 sj i) (U.2.2.2.2.1 162 i) (U.2.2.2.2.1 124 i)) := by
  refine mu_meth (M := mu_m350) rfl rfl ?_
  refine mw_ht (mu_fn_of (show [0, 1, 2, 3].Nodup by decide)) ?_
  refine mw_go mu_g350 (k := 2) (f1 := (4, [(0, .inr (.inr (some 158))), (1, .inl (nI o)), (2, .inl (nI b)), (3, .inl (nI sj))], [.inr (.inr (mu_r H 158 3))], H)) (C := [mu_is H (some 158) 8]) rfl (show mu_is H (some 158) 8 from (h.1.1.is rfl)) ?_
  rw [(h.1.1.r (p := 158) (j := 3) (q := 161) rfl)]
  refine mw_go mu_g350 (k := 2) (f1 := (8, [(0, .inr (.inr (some 158))), (1, .inl (nI o)), (2, .inl (nI b)), (3, .inl (nI sj))], [.inr (.inr (mu_r H 158 2)), .inr (.inr (some 161))], H)) (C := [mu_is H (some 158) 8]) rfl (show mu_is H (some 158) 8 from (h.1.1.is rfl)) ?_
  rw [(h.1.1.r (p := 158) (j := 2) (q := 159) rfl)]
  refine mw_go mu_g350 (k := 2) (f1 := (10, [(0, .inr (.inr (some 158))), (1, .inl (nI o)), (2, .inl (nI b)), (3, .inl (nI sj))], [.inl (1 : Int32), .inl (nI b), .inr (.inr (some 159)), .inr (.inr (some 161))], H)) (C := []) rfl trivial ?_
  refine mw_cIe (fun _ => rfl) (show mu_is H (some 159) 10 from (h.1.1.is rfl)) (h.getr (d := (d + 4)) e (j := 26) (by decide) rfl (nI b) (c := 1) (by decide)) ?_
  rw [show (tget (U.1 26) (nI b) 1) = (nI jl) from ((congrArg (fun z => tget z (nI b) 1) (show U.1 26 = (U.1 26) from rfl)).trans (tget_nI (by first | omega | decide))).trans hrb]
  have ka2 : mu_r H 161 jl = some ql := (dR_pool e (Or.inl rfl) (plp161 (show jl < 248 by omega))).trans (LSN.ref (show LSN U 161 jl ql _ from hll) (Or.inl rfl))
  refine mw_go mu_g350 (k := 1) (f1 := (14, [(0, .inr (.inr (some 158))), (1, .inl (nI o)), (2, .inl (nI b)), (3, .inl (nI sj))], [.inr (.inr (mu_r H 161 (nI jl).toNatClampNeg))], H)) (C := [mu_is H (some 161) (mu_k H 161), 103 ≤ mu_k H 161 ∧ mu_k H 161 ≤ 110 ∧ mu_k H 161 ≠ 108, vp_in (nI jl) (mu_n H 161)]) rfl (show (mu_is H (some 161) (mu_k H 161)) ∧ (103 ≤ mu_k H 161 ∧ mu_k H 161 ≤ 110 ∧ mu_k H 161 ≠ 108) ∧ (vp_in (nI jl) (mu_n H 161)) from ⟨(by have z := (h.1.1.a (p := 161) (x := (104, 248)) rfl).1; rw [show mu_k H 161 = 104 from z.2.2]; exact z), (by have z := (h.1.1.a (p := 161) (x := (104, 248)) rfl).1; rw [show mu_k H 161 = 104 from z.2.2]; decide), (by rw [show mu_n H 161 = 248 from (h.1.1.a (p := 161) (x := (104, 248)) rfl).2]; exact vp_in_nI (n := jl) (by omega) (by decide))⟩) ?_
  rw [show (mu_r H 161 (nI jl).toNatClampNeg) = (some ql) from (congrArg (mu_r H 161) (show (nI jl).toNatClampNeg = jl from nI_clamp (by omega))).trans ka2]
  refine mw_go mu_g350 (k := 3) (f1 := (20, [(4, .inr (.inr (some ql))), (0, .inr (.inr (some 158))), (1, .inl (nI o)), (2, .inl (nI b)), (3, .inl (nI sj))], [.inr (.inr (mu_r H 158 3))], H)) (C := [mu_is H (some 158) 8]) rfl (show mu_is H (some 158) 8 from (h.1.1.is rfl)) ?_
  rw [(h.1.1.r (p := 158) (j := 3) (q := 161) rfl)]
  refine mw_go mu_g350 (k := 2) (f1 := (24, [(4, .inr (.inr (some ql))), (0, .inr (.inr (some 158))), (1, .inl (nI o)), (2, .inl (nI b)), (3, .inl (nI sj))], [.inr (.inr (mu_r H 158 2)), .inr (.inr (some 161))], H)) (C := [mu_is H (some 158) 8]) rfl (show mu_is H (some 158) 8 from (h.1.1.is rfl)) ?_
  rw [(h.1.1.r (p := 158) (j := 2) (q := 159) rfl)]
  refine mw_go mu_g350 (k := 2) (f1 := (28, [(4, .inr (.inr (some ql))), (0, .inr (.inr (some 158))), (1, .inl (nI o)), (2, .inl (nI b)), (3, .inl (nI sj))], [.inr (.inr (mu_r H 158 2)), .inr (.inr (some 159)), .inr (.inr (some 161))], H)) (C := [mu_is H (some 158) 8]) rfl (show mu_is H (some 158) 8 from (h.1.1.is rfl)) ?_
  rw [(h.1.1.r (p := 158) (j := 2) (q := 159) rfl)]
  refine mw_go mu_g350 (k := 1) (f1 := (31, [(4, .inr (.inr (some ql))), (0, .inr (.inr (some 158))), (1, .inl (nI o)), (2, .inl (nI b)), (3, .inl (nI sj))], [.inl (mu_i H 159 2), .inr (.inr (some 159)), .inr (.inr (some 161))], H)) (C := [mu_is H (some 159) 10]) rfl (show mu_is H (some 159) 10 from (h.1.1.is rfl)) ?_
  rw [(show mu_i H 159 2 = (nI sz) from (h.size e (j := 26) (by decide) rfl).trans (congrArg nI ((congrArg Prod.fst (show U.1 26 = (U.1 26) from rfl)).trans hz)))]
  refine mw_go mu_g350 (k := 2) (f1 := (33, [(4, .inr (.inr (some ql))), (0, .inr (.inr (some 158))), (1, .inl (nI o)), (2, .inl (nI b)), (3, .inl (nI sj))], [.inl ((nI sz) - (1 : Int32)), .inr (.inr (some 159)), .inr (.inr (some 161))], H)) (C := []) rfl trivial ?_
  rw [(show ((nI sz) - (1 : Int32)) = (nI (sz - 1)) from (nI_sub (a := sz) (b := 1) (by omega)))]
  refine mw_go mu_g350 (k := 1) (f1 := (34, [(4, .inr (.inr (some ql))), (0, .inr (.inr (some 158))), (1, .inl (nI o)), (2, .inl (nI b)), (3, .inl (nI sj))], [.inl (1 : Int32), .inl (nI (sz - 1)), .inr (.inr (some 159)), .inr (.inr (some 161))], H)) (C := []) rfl trivial ?_
  refine mw_cIe (fun _ => rfl) (show mu_is H (some 159) 10 from (h.1.1.is rfl)) (h.getr (d := (d + 4)) e (j := 26) (by decide) rfl (nI (sz - 1)) (c := 1) (by decide)) ?_
  rw [show (tget (U.1 26) (nI (sz - 1)) 1) = (nI jr) from ((congrArg (fun z => tget z (nI (sz - 1)) 1) (show U.1 26 = (U.1 26) from rfl)).trans (tget_nI (by first | omega | decide))).trans hrt]
  have ka4 : mu_r H 161 jr = some qr := (dR_pool e (Or.inl rfl) (plp161 (show jr < 248 by omega))).trans (LSN.ref (show LSN U 161 jr qr _ from hlr) (Or.inl rfl))
  refine mw_go mu_g350 (k := 1) (f1 := (38, [(4, .inr (.inr (some ql))), (0, .inr (.inr (some 158))), (1, .inl (nI o)), (2, .inl (nI b)), (3, .inl (nI sj))], [.inr (.inr (mu_r H 161 (nI jr).toNatClampNeg))], H)) (C := [mu_is H (some 161) (mu_k H 161), 103 ≤ mu_k H 161 ∧ mu_k H 161 ≤ 110 ∧ mu_k H 161 ≠ 108, vp_in (nI jr) (mu_n H 161)]) rfl (show (mu_is H (some 161) (mu_k H 161)) ∧ (103 ≤ mu_k H 161 ∧ mu_k H 161 ≤ 110 ∧ mu_k H 161 ≠ 108) ∧ (vp_in (nI jr) (mu_n H 161)) from ⟨(by have z := (h.1.1.a (p := 161) (x := (104, 248)) rfl).1; rw [show mu_k H 161 = 104 from z.2.2]; exact z), (by have z := (h.1.1.a (p := 161) (x := (104, 248)) rfl).1; rw [show mu_k H 161 = 104 from z.2.2]; decide), (by rw [show mu_n H 161 = 248 from (h.1.1.a (p := 161) (x := (104, 248)) rfl).2]; exact vp_in_nI (n := jr) (by omega) (by decide))⟩) ?_
  rw [show (mu_r H 161 (nI jr).toNatClampNeg) = (some qr) from (congrArg (mu_r H 161) (show (nI jr).toNatClampNeg = jr from nI_clamp (by omega))).trans ka4]
  refine mw_go mu_g350 (k := 5) (f1 := (44, [(5, .inr (.inr (some qr))), (4, .inr (.inr (some ql))), (0, .inr (.inr (some 158))), (1, .inl (nI o)), (2, .inl (nI b)), (3, .inl (nI sj))], [.inl ((nI sj) + (1 : Int32)), .inr (.inr (some 158))], H)) (C := []) rfl trivial ?_
  rw [(show ((nI sj) + (1 : Int32)) = (nI (sj + 1)) from (nI_add sj 1))]
  refine mw_go mu_g350 (k := 1) (f1 := (47, [(5, .inr (.inr (some qr))), (4, .inr (.inr (some ql))), (0, .inr (.inr (some 158))), (1, .inl (nI o)), (2, .inl (nI b)), (3, .inl (nI sj))], [], (mu_si H 158 4 (nI (sj + 1))))) (C := [mu_is H (some 158) 8]) rfl (show mu_is H (some 158) 8 from (h.1.1.is rfl)) ?_
  obtain ⟨u5, r5, d5⟩ : um m (mu_si H 158 4 (nI (sj + 1))) ∧ ur m C H (mu_si H 158 4 (nI (sj + 1))) ∧ ud m (mu_si H 158 4 (nI (sj + 1))) = (upI U 158 4 (nI (sj + 1))) := h.sI (C := C) e rfl
  generalize (mu_si H 158 4 (nI (sj + 1))) = Q5 at u5 r5 d5 ⊢
  have qf5 : uq F350j U (upI U 158 4 (nI (sj + 1))) := (uq.refl F350j U).I rfl
  have ht5 : ur m C H Q5 := (ur.refl m C H).trans r5
  refine mw_go mu_g350 (k := 2) (f1 := (51, [(5, .inr (.inr (some qr))), (4, .inr (.inr (some ql))), (0, .inr (.inr (some 158))), (1, .inl (nI o)), (2, .inl (nI b)), (3, .inl (nI sj))], [.inl (mu_i Q5 158 16)], Q5)) (C := [mu_is Q5 (some 158) 8]) rfl (show mu_is Q5 (some 158) 8 from (u5.1.1.is rfl)) ?_
  rw [(show mu_i Q5 158 16 = (nI at0) from (ud_i (U := (upI U 158 4 (nI (sj + 1)))) (m := m) (P := 158) (j := 16) d5 rfl).trans hat)]
  refine mw_go mu_g350 (k := 2) (f1 := (55, [(5, .inr (.inr (some qr))), (4, .inr (.inr (some ql))), (0, .inr (.inr (some 158))), (1, .inl (nI o)), (2, .inl (nI b)), (3, .inl (nI sj))], [.inl (mu_i Q5 158 17), .inl (nI at0)], Q5)) (C := [mu_is Q5 (some 158) 8]) rfl (show mu_is Q5 (some 158) 8 from (u5.1.1.is rfl)) ?_
  rw [(show mu_i Q5 158 17 = (nI to0) from (ud_i (U := (upI U 158 4 (nI (sj + 1)))) (m := m) (P := 158) (j := 17) d5 rfl).trans hto)]
  refine mw_if (P := (nI at0) = (nI to0)) (a := 58) (b := 60) (fun _ => rfl) trivial (fun h6 => absurd h6 (fun z => absurd ((nI_eq (by omega) (by omega)).mp (show nI at0 = nI to0 from z)) (by omega))) (fun h6 => ?_)
  refine mw_go mu_g350 (k := 1) (f1 := (61, [(5, .inr (.inr (some qr))), (4, .inr (.inr (some ql))), (0, .inr (.inr (some 158))), (1, .inl (nI o)), (2, .inl (nI b)), (3, .inl (nI sj))], [.inl (nI o)], Q5)) (C := []) rfl trivial ?_
  refine mw_cIe (fun _ => rfl) trivial ((pv_timed2 (d := (d + 4)) (H := Q5) (o := o) ho34).imp (fun x H1 q => show x = (1 : Int32) ∧ H1 = Q5 from ⟨(q.1.resolve_left (fun y => y.2 ho)).1, q.2⟩)) ?_
  refine mw_if (P := (1 : Int32) = 0) (a := 67) (b := 84) (fun _ => rfl) trivial (fun h8 => absurd h8 (by decide)) (fun h8 => ?_)
  refine mw_go mu_g350 (k := 3) (f1 := (89, [(5, .inr (.inr (some qr))), (4, .inr (.inr (some ql))), (0, .inr (.inr (some 158))), (1, .inl (nI o)), (2, .inl (nI b)), (3, .inl (nI sj))], [.inl (mu_i Q5 158 20), .inr (.inr (some 158))], Q5)) (C := [mu_is Q5 (some 158) 8]) rfl (show mu_is Q5 (some 158) 8 from (u5.1.1.is rfl)) ?_
  rw [(show mu_i Q5 158 20 = (nI 2) from (ud_i (U := (upI U 158 4 (nI (sj + 1)))) (m := m) (P := 158) (j := 20) d5 rfl).trans hsg)]
  refine mw_go mu_g350 (k := 2) (f1 := (91, [(5, .inr (.inr (some qr))), (4, .inr (.inr (some ql))), (0, .inr (.inr (some 158))), (1, .inl (nI o)), (2, .inl (nI b)), (3, .inl (nI sj))], [.inl ((nI 2) + (1 : Int32)), .inr (.inr (some 158))], Q5)) (C := []) rfl trivial ?_
  rw [(show ((nI 2) + (1 : Int32)) = (nI (2 + 1)) from (nI_add 2 1))]
  refine mw_go mu_g350 (k := 1) (f1 := (94, [(5, .inr (.inr (some qr))), (4, .inr (.inr (some ql))), (0, .inr (.inr (some 158))), (1, .inl (nI o)), (2, .inl (nI b)), (3, .inl (nI sj))], [], (mu_si Q5 158 20 (nI (2 + 1))))) (C := [mu_is Q5 (some 158) 8]) rfl (show mu_is Q5 (some 158) 8 from (u5.1.1.is rfl)) ?_
  obtain ⟨u9, r9, d9⟩ : um m (mu_si Q5 158 20 (nI (2 + 1))) ∧ ur m C Q5 (mu_si Q5 158 20 (nI (2 + 1))) ∧ ud m (mu_si Q5 158 20 (nI (2 + 1))) = (upI (upI U 158 4 (nI (sj + 1))) 158 20 (nI (2 + 1))) := u5.sI (C := C) d5 rfl
  generalize (mu_si Q5 158 20 (nI (2 + 1))) = Q9 at u9 r9 d9 ⊢
  have qf9 : uq F350j U (upI (upI U 158 4 (nI (sj + 1))) 158 20 (nI (2 + 1))) := qf5.I rfl
  have ht9 : ur m C H Q9 := ht5.trans r9
  refine mw_go mu_g350 (k := 2) (f1 := (98, [(5, .inr (.inr (some qr))), (4, .inr (.inr (some ql))), (0, .inr (.inr (some 158))), (1, .inl (nI o)), (2, .inl (nI b)), (3, .inl (nI sj))], [.inl (mu_i Q9 158 20)], Q9)) (C := [mu_is Q9 (some 158) 8]) rfl (show mu_is Q9 (some 158) 8 from (u9.1.1.is rfl)) ?_
  rw [(show mu_i Q9 158 20 = (nI (2 + 1)) from (ud_i (U := (upI (upI U 158 4 (nI (sj + 1))) 158 20 (nI (2 + 1)))) (m := m) (P := 158) (j := 20) d9 rfl))]
  refine mw_go mu_g350 (k := 1) (f1 := (99, [(5, .inr (.inr (some qr))), (4, .inr (.inr (some ql))), (0, .inr (.inr (some 158))), (1, .inl (nI o)), (2, .inl (nI b)), (3, .inl (nI sj))], [.inl (1 : Int32), .inl (nI (2 + 1))], Q9)) (C := []) rfl trivial ?_
  refine mw_if (P := (nI (2 + 1)) = (1 : Int32)) (a := 102) (b := 146) (fun _ => rfl) trivial (fun h10 => absurd h10 (by decide)) (fun h10 => ?_)
  refine mw_go mu_g350 (k := 2) (f1 := (150, [(5, .inr (.inr (some qr))), (4, .inr (.inr (some ql))), (0, .inr (.inr (some 158))), (1, .inl (nI o)), (2, .inl (nI b)), (3, .inl (nI sj))], [.inl (mu_i Q9 158 20)], Q9)) (C := [mu_is Q9 (some 158) 8]) rfl (show mu_is Q9 (some 158) 8 from (u9.1.1.is rfl)) ?_
  rw [(show mu_i Q9 158 20 = (nI (2 + 1)) from (ud_i (U := (upI (upI U 158 4 (nI (sj + 1))) 158 20 (nI (2 + 1)))) (m := m) (P := 158) (j := 20) d9 rfl))]
  refine mw_go mu_g350 (k := 1) (f1 := (151, [(5, .inr (.inr (some qr))), (4, .inr (.inr (some ql))), (0, .inr (.inr (some 158))), (1, .inl (nI o)), (2, .inl (nI b)), (3, .inl (nI sj))], [.inl (2 : Int32), .inl (nI (2 + 1))], Q9)) (C := []) rfl trivial ?_
  refine mw_if (P := (nI (2 + 1)) = (2 : Int32)) (a := 154) (b := 183) (fun _ => rfl) trivial (fun h11 => absurd h11 (by decide)) (fun h11 => ?_)
  refine mw_go mu_g350 (k := 3) (f1 := (188, [(5, .inr (.inr (some qr))), (4, .inr (.inr (some ql))), (0, .inr (.inr (some 158))), (1, .inl (nI o)), (2, .inl (nI b)), (3, .inl (nI sj))], [], (mu_si Q9 158 20 (0 : Int32)))) (C := [mu_is Q9 (some 158) 8]) rfl (show mu_is Q9 (some 158) 8 from (u9.1.1.is rfl)) ?_
  obtain ⟨u12, r12, d12⟩ : um m (mu_si Q9 158 20 (0 : Int32)) ∧ ur m C Q9 (mu_si Q9 158 20 (0 : Int32)) ∧ ud m (mu_si Q9 158 20 (0 : Int32)) = (upI (upI (upI U 158 4 (nI (sj + 1))) 158 20 (nI (2 + 1))) 158 20 (0 : Int32)) := u9.sI (C := C) d9 rfl
  generalize (mu_si Q9 158 20 (0 : Int32)) = Q12 at u12 r12 d12 ⊢
  have qf12 : uq F350j U (upI (upI (upI U 158 4 (nI (sj + 1))) 158 20 (nI (2 + 1))) 158 20 (0 : Int32)) := qf9.I rfl
  have ht12 : ur m C H Q12 := ht9.trans r12
  refine mw_go mu_g350 (k := 4) (f1 := (194, [(5, .inr (.inr (some qr))), (4, .inr (.inr (some ql))), (0, .inr (.inr (some 158))), (1, .inl (nI o)), (2, .inl (nI b)), (3, .inl (nI sj))], [.inr (.inr (mu_r Q12 158 3)), .inl (nI o), .inr (.inr (some 158))], Q12)) (C := [mu_is Q12 (some 158) 8]) rfl (show mu_is Q12 (some 158) 8 from (u12.1.1.is rfl)) ?_
  rw [(u12.1.1.r (p := 158) (j := 3) (q := 161) rfl)]
  refine mw_go mu_g350 (k := 1) (f1 := (195, [(5, .inr (.inr (some qr))), (4, .inr (.inr (some ql))), (0, .inr (.inr (some 158))), (1, .inl (nI o)), (2, .inl (nI b)), (3, .inl (nI sj))], [.inl (nI sj), .inr (.inr (some 161)), .inl (nI o), .inr (.inr (some 158))], Q12)) (C := []) rfl trivial ?_
  have ka13 : mu_r Q12 161 sj = some qs := (dR_pool d12 (Or.inl rfl) (plp161 (show sj < 248 by omega))).trans (LSN.ref (show LSN (upI (upI (upI U 158 4 (nI (sj + 1))) 158 20 (nI (2 + 1))) 158 20 (0 : Int32)) 161 sj qs _ from (hls.keep (fun b c hb => by rcases hb with rfl | rfl <;> rfl) rfl)) (Or.inl rfl))
  refine mw_go mu_g350 (k := 1) (f1 := (196, [(5, .inr (.inr (some qr))), (4, .inr (.inr (some ql))), (0, .inr (.inr (some 158))), (1, .inl (nI o)), (2, .inl (nI b)), (3, .inl (nI sj))], [.inr (.inr (mu_r Q12 161 (nI sj).toNatClampNeg)), .inl (nI o), .inr (.inr (some 158))], Q12)) (C := [mu_is Q12 (some 161) (mu_k Q12 161), 103 ≤ mu_k Q12 161 ∧ mu_k Q12 161 ≤ 110 ∧ mu_k Q12 161 ≠ 108, vp_in (nI sj) (mu_n Q12 161)]) rfl (show (mu_is Q12 (some 161) (mu_k Q12 161)) ∧ (103 ≤ mu_k Q12 161 ∧ mu_k Q12 161 ≤ 110 ∧ mu_k Q12 161 ≠ 108) ∧ (vp_in (nI sj) (mu_n Q12 161)) from ⟨(by have z := (u12.1.1.a (p := 161) (x := (104, 248)) rfl).1; rw [show mu_k Q12 161 = 104 from z.2.2]; exact z), (by have z := (u12.1.1.a (p := 161) (x := (104, 248)) rfl).1; rw [show mu_k Q12 161 = 104 from z.2.2]; decide), (by rw [show mu_n Q12 161 = 248 from (u12.1.1.a (p := 161) (x := (104, 248)) rfl).2]; exact vp_in_nI (n := sj) (by omega) (by decide))⟩) ?_
  rw [show (mu_r Q12 161 (nI sj).toNatClampNeg) = (some qs) from (congrArg (mu_r Q12 161) (show (nI sj).toNatClampNeg = sj from nI_clamp (by omega))).trans ka13]
  refine mw_cV (fun _ => rfl) (show mu_is Q12 (some 158) 8 from (u12.1.1.is rfl)) (pr_finish (d := (d + 3)) (C := C) (jo := sj) u12 d12 (show (upI (upI (upI U 158 4 (nI (sj + 1))) 158 20 (nI (2 + 1))) 158 20 (0 : Int32)).2.1 99 12 = nI wn from hw12) hwn ho34 (hls.keep (fun b c hb => by rcases hb with rfl | rfl <;> rfl) rfl)) (fun Q14 q14 => ?_)
  obtain ⟨u14, r14, z14, gx0, hx48, hx62, hxw⟩ := q14
  have ht14 : ur m C H Q14 := ht12.trans r14
  obtain ⟨X0, d14⟩ : ∃ V, ud m Q14 = V := ⟨_, rfl⟩
  rw [d14] at z14 gx0 hx48 hx62 hxw
  have gx0 : GKQ 161 sj U X0 := gx0
  have hx48 : X0.2.2.2.2.1 148 = U.2.2.2.2.1 148 := hx48
  have qx0 : uq F350j U X0 := qf12.tr z14 rfl
  refine mw_go mu_g350 (k := 1) (f1 := (200, [(5, .inr (.inr (some qr))), (4, .inr (.inr (some ql))), (0, .inr (.inr (some 158))), (1, .inl (nI o)), (2, .inl (nI b)), (3, .inl (nI sj))], [.inl (0 : Int32)], Q14)) (C := []) rfl trivial ?_
  exact mw_of (fun _ => mu_ret rfl (Or.inl rfl) ⟨(0 : Int32), Q14, rfl, rfl, u14, ht14, (by rw [d14]; exact ⟨qx0, gx0, hx48, hx62, ((z14.i 158 4 rfl)).trans rfl, ((z14.i 158 20 rfl)).trans rfl, hxw⟩)⟩)
end Combine
