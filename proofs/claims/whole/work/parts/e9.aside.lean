/-! RELATION: putAside -/
section PutAside
variable {H : mu_H} {U V : Ud} {m d P kb k pl nw : Nat} {C : Nat → Nat} {f : Nat → Nat} {a b w mk : Int32} {ky : Nat → Int32}
def F308 : Uf := ⟨[25], [], [(99, 18), (129, 7), (129, 8), (129, 9)], [], [], false⟩

/-- PathProver$Relation.putAside(IIII)V -/
abbrev mu_m308 : ev_M := (5, none, [], ev_b308)
theorem mu_g308 : mu_good mu_m308 := mu_goodk ev_k308
theorem rl_aside (h : um m H) (e : ud m H = U) (hS : spx m U P f) (hmk : U.2.1 100 4 = mk) (hk2 : k < 2147483648) (hw : (U.1 23).2 k 2 = w) (hn : (U.1 25).1 = nw) (hC1 : 2 * ((nw + 1) * 4) + 4 ≤ C 25) (hC2 : C 25 ≤ 8388608) (h7 : pd f 0 P ≤ (U.2.2.1 129 7).1) (h7b : (U.2.2.1 129 7).1 ≤ 16777216) (h8 : 2 * pd f 0 P ≤ (U.2.2.1 129 8).1) (h8b : (U.2.2.1 129 8).1 ≤ 16777216) (h9 : (U.2.2.1 129 9).1 = 2 ^ kb) (hkb : kb ≤ 15) (hTb : pd f 0 P < 2 ^ kb) : mu_TV (mu_D (d + 4)) 308 [.inr (.inr (some 129)), .inl (nI pl), .inl (nI k), .inl a, .inl b] H (fun H1 => um m H1 ∧ ur m C H H1 ∧ uq F308 U (ud m H1) ∧ (ud m H1).1 25 = ap 25 U.1 a b w (nI pl) 25 ∧ CLS U (ud m H1) (pd f 0 P) (fun t => nI (pj mk f P P t))) := by
  obtain ⟨⟨s4, s10, s11, s12⟩, hk5, ⟨g8, g8b, g18, g18b⟩, ⟨gP, gpd, gsm⟩, hsp, hmo⟩ := (show spx m U P f from hS)
  refine mu_meth (M := mu_m308) rfl rfl ?_
  refine mw_ht (mu_fn_of (show [0, 1, 2, 3, 4].Nodup by decide)) ?_
  refine mw_go mu_g308 (k := 2) (f1 := (4, [(0, .inr (.inr (some 129))), (1, .inl (nI pl)), (2, .inl (nI k)), (3, .inl a), (4, .inl b)], [.inr (.inr (mu_r H 129 3))], H)) (C := [mu_is H (some 129) 9]) rfl (show mu_is H (some 129) 9 from (h.1.1.is rfl)) ?_
  rw [(h.1.1.r (p := 129) (j := 3) (q := 132) rfl)]
  refine mw_go mu_g308 (k := 4) (f1 := (11, [(0, .inr (.inr (some 129))), (1, .inl (nI pl)), (2, .inl (nI k)), (3, .inl a), (4, .inl b)], [.inr (.inr (mu_r H 129 2)), .inl b, .inl a, .inr (.inr (some 132))], H)) (C := [mu_is H (some 129) 9]) rfl (show mu_is H (some 129) 9 from (h.1.1.is rfl)) ?_
  rw [(h.1.1.r (p := 129) (j := 2) (q := 118) rfl)]
  refine mw_go mu_g308 (k := 2) (f1 := (13, [(0, .inr (.inr (some 129))), (1, .inl (nI pl)), (2, .inl (nI k)), (3, .inl a), (4, .inl b)], [.inl (2 : Int32), .inl (nI k), .inr (.inr (some 118)), .inl b, .inl a, .inr (.inr (some 132))], H)) (C := []) rfl trivial ?_
  refine mw_cIe (fun _ => rfl) (show mu_is H (some 118) 10 from (h.1.1.is rfl)) (h.getr (d := (d + 2)) e (j := 23) (by decide) rfl (nI k) (c := 2) (by decide)) ?_
  rw [show (tget (U.1 23) (nI k) 2) = w from ((congrArg (fun z => tget z (nI k) 2) (show U.1 23 = (U.1 23) from rfl)).trans (tget_nI (by omega))).trans hw]
  refine mw_go mu_g308 (k := 1) (f1 := (17, [(0, .inr (.inr (some 129))), (1, .inl (nI pl)), (2, .inl (nI k)), (3, .inl a), (4, .inl b)], [.inl (nI pl), .inl w, .inl b, .inl a, .inr (.inr (some 132))], H)) (C := []) rfl trivial ?_
  refine mw_cI (fun _ => rfl) (show mu_is H (some 132) 10 from (h.1.1.is rfl)) (h.putr (C := C) (d := d) e (j := 25) (Or.inr ⟨by decide, by decide⟩) rfl a b w (nI pl) (by show 2 * (((U.1 25).1 + 1) * 4) + 4 ≤ C 25; omega) (by omega)) (fun x2 Q2 q2 => ?_)
  obtain ⟨rfl, u2, r2, d2⟩ := q2
  have ht2 : ur m C H Q2 := (ur.refl m C H).trans r2
  have qf2 : uq F308 U (upT U (ap 25 U.1 a b w (nI pl))) := (uq.refl F308 U).ap rfl
  refine mw_go mu_g308 (k := 4) (f1 := (26, [(0, .inr (.inr (some 129))), (1, .inl (nI pl)), (2, .inl (nI k)), (3, .inl a), (4, .inl b)], [.inr (.inr (mu_r Q2 129 0)), .inr (.inr (some 129))], Q2)) (C := [mu_is Q2 (some 129) 9]) rfl (show mu_is Q2 (some 129) 9 from (u2.1.1.is rfl)) ?_
  rw [(u2.1.1.r (p := 129) (j := 0) (q := 99) rfl)]
  refine mw_go mu_g308 (k := 1) (f1 := (29, [(0, .inr (.inr (some 129))), (1, .inl (nI pl)), (2, .inl (nI k)), (3, .inl a), (4, .inl b)], [.inr (.inr (mu_r Q2 99 1)), .inr (.inr (some 129))], Q2)) (C := [mu_is Q2 (some 99) 13]) rfl (show mu_is Q2 (some 99) 13 from (u2.1.1.is rfl)) ?_
  rw [(u2.1.1.r (p := 99) (j := 1) (q := 100) rfl)]
  refine mw_go mu_g308 (k := 1) (f1 := (32, [(0, .inr (.inr (some 129))), (1, .inl (nI pl)), (2, .inl (nI k)), (3, .inl a), (4, .inl b)], [.inl (mu_i Q2 100 4), .inr (.inr (some 129))], Q2)) (C := [mu_is Q2 (some 100) 5]) rfl (show mu_is Q2 (some 100) 5 from (u2.1.1.is rfl)) ?_
  rw [(show mu_i Q2 100 4 = mk from (ud_i (U := (upT U (ap 25 U.1 a b w (nI pl)))) (m := m) (P := 100) (j := 4) d2 rfl).trans hmk)]
  refine mw_go mu_g308 (k := 2) (f1 := (34, [(0, .inr (.inr (some 129))), (1, .inl (nI pl)), (2, .inl (nI k)), (3, .inl a), (4, .inl b)], [.inl (0 : Int32), .inr (.inr none), .inl mk, .inr (.inr (some 129))], Q2)) (C := []) rfl trivial ?_
  refine mw_cV (fun _ => rfl) (show mu_is Q2 (some 129) 9 from (u2.1.1.is rfl)) (rl_refine (d := d) (C := C) (kb := kb) (bs := 0) (mk := mk) (ky := fun t => nI (pj mk f P P t)) u2 d2 (spx_keep hS (show ((upT U (ap 25 U.1 a b w (nI pl))).2.1 99 4) = (U.2.1 99 4) from rfl) (show ((upT U (ap 25 U.1 a b w (nI pl))).2.1 99 10) = (U.2.1 99 10) from rfl) (show ((upT U (ap 25 U.1 a b w (nI pl))).2.1 99 11) = (U.2.1 99 11) from rfl) (show ((upT U (ap 25 U.1 a b w (nI pl))).2.1 99 12) = (U.2.1 99 12) from rfl) (show ((upT U (ap 25 U.1 a b w (nI pl))).2.2.1 99 5) = (U.2.2.1 99 5) from rfl) (show ((upT U (ap 25 U.1 a b w (nI pl))).2.2.1 99 7) = (U.2.2.1 99 7) from rfl) (show ((upT U (ap 25 U.1 a b w (nI pl))).2.2.1 99 6) = (U.2.2.1 99 6) from rfl) (show ((upT U (ap 25 U.1 a b w (nI pl))).2.2.1 99 8).1 = (U.2.2.1 99 8).1 from rfl) (show ((upT U (ap 25 U.1 a b w (nI pl))).2.2.1 99 18).1 = (U.2.2.1 99 18).1 from rfl) (show ((upT U (ap 25 U.1 a b w (nI pl))).2.2.2.1 100 0) = (U.2.2.2.1 100 0) from rfl) (show ((upT U (ap 25 U.1 a b w (nI pl))).2.2.2.1 99 0) = (U.2.2.2.1 99 0) from rfl)) (by rw [(show ((upT U (ap 25 U.1 a b w (nI pl))).2.2.1 129 7).1 = (U.2.2.1 129 7).1 from rfl)]; exact h7) (by rw [(show ((upT U (ap 25 U.1 a b w (nI pl))).2.2.1 129 7).1 = (U.2.2.1 129 7).1 from rfl)]; exact h7b) (by rw [(show ((upT U (ap 25 U.1 a b w (nI pl))).2.2.1 129 8).1 = (U.2.2.1 129 8).1 from rfl)]; exact h8) (by rw [(show ((upT U (ap 25 U.1 a b w (nI pl))).2.2.1 129 8).1 = (U.2.2.1 129 8).1 from rfl)]; exact h8b) (by rw [(show ((upT U (ap 25 U.1 a b w (nI pl))).2.2.1 129 9).1 = (U.2.2.1 129 9).1 from rfl)]; exact h9) hkb hTb (fun _ _ => rfl)) (fun Q3 q3 => ?_)
  obtain ⟨u3, r3, z3, hCL⟩ := q3
  have ht3 : ur m C H Q3 := ht2.trans r3
  obtain ⟨V3, d3⟩ : ∃ V, ud m Q3 = V := ⟨_, rfl⟩
  rw [d3] at z3 hCL
  have qf3 : uq F308 U V3 := qf2.tr z3 rfl
  exact mw_of (fun _ => mu_ret rfl trivial ⟨Q3, rfl, u3, ht3, (by rw [d3]; exact qf3), (by rw [d3]; exact ⟨(z3.t 25 rfl).trans rfl, hCL⟩)⟩)
end PutAside
