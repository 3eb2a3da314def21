/-! RELATION: isThere, isBranch, longestOr, isFirstOr -/
/-- rows that hold codes of INSTANCES: columns c0 (start), c1 (stop) -/
def PCR (Y : Ts) (t : Tb) (c0 c1 r a n i : Nat) : Prop := t.2 r c0 = nI a ∧ t.2 r c1 = nI (a + n) ∧ ∃ L, rgs Y (im Y i) L a (a + n)
section There
variable {H : mu_H} {U : Ud} {m d a n i np nb nw : Nat} {Y : Ts} {pa pn pi wa wn wi : Nat → Nat} {wk : Nat → Bool} {es : Nat → Int32} {L : List Bool} {P : Nat}
theorem nI_m1 {j : Nat} (h : ¬ nI j - (1 : Int32) < 0) (hj : j < 2147483648) : 1 ≤ j := by
  by_cases e : j = 0
  · rw [e] at h
    exact absurd (by decide) h
  · omega
theorem nI_p1 {j : Nat} (h : 0 < nI j - (1 : Int32)) (hj : j < 2147483648) : 2 ≤ j := by
  by_cases e : j = 0
  · rw [e] at h
    exact absurd h (by decide)
  · by_cases e1 : j = 1
    · rw [e1] at h
      exact absurd h (by decide)
    · omega
theorem nI_d1 {j : Nat} (h : 1 ≤ j) : nI j - (1 : Int32) = nI (j - 1) := nI_sub (a := j) (b := 1) h
/-- PathProver$Relation.isThere(III)Z -/
abbrev mu_m389 : ev_M := (6, (some .boolean), [], ev_b389)
theorem mu_g389 : mu_good mu_m389 := mu_goodk ev_k389
theorem rl_there (h : um m H) (e : ud m H = U) (hmo : U.2.2.2.1 99 0 = some m) (hj : jv Y U.1) (hj0 : U.1 0 = Y 0) (hj9 : U.1 9 = Y 9) (hJ : JW Y) (hC : Cc Y) (hi : i < (Y 11).1) (hib : (Y 11).1 ≤ 67108864) (hra : rgs Y (im Y i) L a (a + n)) (hb2 : (Y 0).1 ≤ 16777216) (hsp : sp Y (im Y i + 1) 6 ≤ 67108864) (hT : ∀ r, r < np → PCR Y (U.1 23) 0 1 r (pa r) (pn r) (pi r)) (hPi : ∀ r, r < np → (U.1 23).2 r 2 = nI (pi r) ∧ pi r ≤ 67108864) (hsz : (U.1 23).1 = np) (hszb : np ≤ 67108864) : mu_TI (mu_D (d + 4)) 389 [.inr (.inr (some 129)), .inl (nI a), .inl (nI (a + n)), .inl (nI i)] H (fun r H1 => ((r = 1 ∧ ∃ k, k < np ∧ pi k = i ∧ pn k = n ∧ ALK Y (pa k) a n i) ∨ r = 0) ∧ H1 = H) := by
  have hba := hra.2.1
  refine mu_meth (M := mu_m389) rfl rfl ?_
  refine mw_ht (mu_fn_of (show [0, 1, 2, 3].Nodup by decide)) ?_
  refine mw_go mu_g389 (k := 2) (f1 := (4, [(0, .inr (.inr (some 129))), (1, .inl (nI a)), (2, .inl (nI (a + n))), (3, .inl (nI i))], [.inr (.inr (mu_r H 129 2))], H)) (C := [mu_is H (some 129) 9]) rfl (show mu_is H (some 129) 9 from (h.1.1.is rfl)) ?_
  rw [(h.1.1.r (p := 129) (j := 2) (q := 118) rfl)]
  refine mw_go mu_g389 (k := 1) (f1 := (7, [(0, .inr (.inr (some 129))), (1, .inl (nI a)), (2, .inl (nI (a + n))), (3, .inl (nI i))], [.inl (mu_i H 118 2)], H)) (C := [mu_is H (some 118) 10]) rfl (show mu_is H (some 118) 10 from (h.1.1.is rfl)) ?_
  rw [(show mu_i H 118 2 = (nI np) from (h.size e (j := 23) (by decide) rfl).trans (congrArg nI ((congrArg Prod.fst (show U.1 23 = (U.1 23) from rfl)).trans hsz)))]
  refine mw_go mu_g389 (k := 3) (f1 := (11, [(4, .inl ((nI np) - (1 : Int32))), (0, .inr (.inr (some 129))), (1, .inl (nI a)), (2, .inl (nI (a + n))), (3, .inl (nI i))], [], H)) (C := []) rfl trivial ?_
  refine mw_sub (L' := [(4, .inl ((nI np) - (1 : Int32))), (0, .inr (.inr (some 129))), (1, .inl (nI a)), (2, .inl (nI (a + n))), (3, .inl (nI i))]) (by simp) ?_
  refine mw_down (α := Nat) (fun zs => (11, [(4, .inl ((nI zs) - (1 : Int32))), (0, .inr (.inr (some 129))), (1, .inl (nI a)), (2, .inl (nI (a + n))), (3, .inl (nI i))], [], H)) (fun zs => zs) (fun zs => (0 ≤ zs ∧ zs ≤ np)) (fun zs hza iha => ?_) np (show 0 ≤ np ∧ np ≤ np from (by omega))
  obtain ⟨j, rfl⟩ : ∃ y, y = zs := ⟨zs, rfl⟩
  have hj1 := hza
  have hj1 : 0 ≤ j ∧ j ≤ np := hj1
  show mu_W _ _ (11, [(4, .inl ((nI j) - (1 : Int32))), (0, .inr (.inr (some 129))), (1, .inl (nI a)), (2, .inl (nI (a + n))), (3, .inl (nI i))], [], H) _
  refine mw_go mu_g389 (k := 1) (f1 := (13, [(4, .inl ((nI j) - (1 : Int32))), (0, .inr (.inr (some 129))), (1, .inl (nI a)), (2, .inl (nI (a + n))), (3, .inl (nI i))], [.inl ((nI j) - (1 : Int32))], H)) (C := []) rfl trivial ?_
  refine mw_if (P := ((nI j) - (1 : Int32)) < 0) (a := 104) (b := 16) (fun _ => rfl) trivial (fun h1 => ?_) (fun h1 => ?_)
  · -- 104: ((nI j) - (1 : Int32)) < 0
    refine mw_go mu_g389 (k := 1) (f1 := (105, [(4, .inl ((nI j) - (1 : Int32))), (0, .inr (.inr (some 129))), (1, .inl (nI a)), (2, .inl (nI (a + n))), (3, .inl (nI i))], [.inl (0 : Int32)], H)) (C := []) rfl trivial ?_
    exact mw_of (fun _ => mu_ret rfl (Or.inl rfl) ⟨_, H, rfl, Or.inr rfl, rfl⟩)
  · -- 16: not ((nI j) - (1 : Int32)) < 0
    refine mw_go mu_g389 (k := 3) (f1 := (22, [(4, .inl ((nI j) - (1 : Int32))), (0, .inr (.inr (some 129))), (1, .inl (nI a)), (2, .inl (nI (a + n))), (3, .inl (nI i))], [.inr (.inr (mu_r H 129 2)), .inl ((nI j) - (1 : Int32))], H)) (C := [mu_is H (some 129) 9]) rfl (show mu_is H (some 129) 9 from (h.1.1.is rfl)) ?_
    rw [(h.1.1.r (p := 129) (j := 2) (q := 118) rfl)]
    refine mw_go mu_g389 (k := 1) (f1 := (25, [(4, .inl ((nI j) - (1 : Int32))), (0, .inr (.inr (some 129))), (1, .inl (nI a)), (2, .inl (nI (a + n))), (3, .inl (nI i))], [.inl (mu_i H 118 2), .inl ((nI j) - (1 : Int32))], H)) (C := [mu_is H (some 118) 10]) rfl (show mu_is H (some 118) 10 from (h.1.1.is rfl)) ?_
    rw [(show mu_i H 118 2 = (nI np) from (h.size e (j := 23) (by decide) rfl).trans (congrArg nI ((congrArg Prod.fst (show U.1 23 = (U.1 23) from rfl)).trans hsz)))]
    refine mw_go mu_g389 (k := 2) (f1 := (28, [(4, .inl ((nI j) - (1 : Int32))), (0, .inr (.inr (some 129))), (1, .inl (nI a)), (2, .inl (nI (a + n))), (3, .inl (nI i))], [.inl ((nI np) - (64 : Int32)), .inl ((nI j) - (1 : Int32))], H)) (C := []) rfl trivial ?_
    refine mw_if (P := ((nI j) - (1 : Int32)) < ((nI np) - (64 : Int32))) (a := 104) (b := 31) (fun _ => rfl) trivial (fun h2 => ?_) (fun h2 => ?_)
    · -- 104: ((nI j) - (1 : Int32)) < ((nI np) - (64 : Int32))
      refine mw_go mu_g389 (k := 1) (f1 := (105, [(4, .inl ((nI j) - (1 : Int32))), (0, .inr (.inr (some 129))), (1, .inl (nI a)), (2, .inl (nI (a + n))), (3, .inl (nI i))], [.inl (0 : Int32)], H)) (C := []) rfl trivial ?_
      exact mw_of (fun _ => mu_ret rfl (Or.inl rfl) ⟨_, H, rfl, Or.inr rfl, rfl⟩)
    · -- 31: not ((nI j) - (1 : Int32)) < ((nI np) - (64 : Int32))
      have hjp : 1 ≤ j := nI_m1 h1 (by omega)
      obtain ⟨k, hk⟩ : ∃ k, k + 1 = j := ⟨j - 1, by omega⟩
      rw [show nI j - (1 : Int32) = nI k from (nI_d1 (by omega)).trans (congrArg nI (by omega))]
      obtain ⟨v0, v1, Lk, hrk⟩ := hT k (by omega)
      have hbk := hrk.2.1
      have hpib := (hPi k (by omega)).2
      refine mw_go mu_g389 (k := 2) (f1 := (35, [(4, .inl (nI k)), (0, .inr (.inr (some 129))), (1, .inl (nI a)), (2, .inl (nI (a + n))), (3, .inl (nI i))], [.inr (.inr (mu_r H 129 2))], H)) (C := [mu_is H (some 129) 9]) rfl (show mu_is H (some 129) 9 from (h.1.1.is rfl)) ?_
      rw [(h.1.1.r (p := 129) (j := 2) (q := 118) rfl)]
      refine mw_go mu_g389 (k := 2) (f1 := (38, [(4, .inl (nI k)), (0, .inr (.inr (some 129))), (1, .inl (nI a)), (2, .inl (nI (a + n))), (3, .inl (nI i))], [.inl (0 : Int32), .inl (nI k), .inr (.inr (some 118))], H)) (C := []) rfl trivial ?_
      refine mw_cIe (fun _ => rfl) (show mu_is H (some 118) 10 from (h.1.1.is rfl)) (h.getr (d := (d + 2)) e (j := 23) (by decide) rfl (nI k) (c := 0) (by decide)) ?_
      rw [show (tget (U.1 23) (nI k) 0) = (nI (pa k)) from ((congrArg (fun z => tget z (nI k) 0) (show U.1 23 = (U.1 23) from rfl)).trans (tget_nI (by first | omega | decide))).trans v0]
      refine mw_go mu_g389 (k := 3) (f1 := (47, [(5, .inl (nI (pa k))), (4, .inl (nI k)), (0, .inr (.inr (some 129))), (1, .inl (nI a)), (2, .inl (nI (a + n))), (3, .inl (nI i))], [.inr (.inr (mu_r H 129 2))], H)) (C := [mu_is H (some 129) 9]) rfl (show mu_is H (some 129) 9 from (h.1.1.is rfl)) ?_
      rw [(h.1.1.r (p := 129) (j := 2) (q := 118) rfl)]
      refine mw_go mu_g389 (k := 2) (f1 := (50, [(5, .inl (nI (pa k))), (4, .inl (nI k)), (0, .inr (.inr (some 129))), (1, .inl (nI a)), (2, .inl (nI (a + n))), (3, .inl (nI i))], [.inl (2 : Int32), .inl (nI k), .inr (.inr (some 118))], H)) (C := []) rfl trivial ?_
      refine mw_cIe (fun _ => rfl) (show mu_is H (some 118) 10 from (h.1.1.is rfl)) (h.getr (d := (d + 2)) e (j := 23) (by decide) rfl (nI k) (c := 2) (by decide)) ?_
      rw [show (tget (U.1 23) (nI k) 2) = (nI (pi k)) from ((congrArg (fun z => tget z (nI k) 2) (show U.1 23 = (U.1 23) from rfl)).trans (tget_nI (by first | omega | decide))).trans (hPi k (by omega)).1]
      refine mw_go mu_g389 (k := 1) (f1 := (54, [(5, .inl (nI (pa k))), (4, .inl (nI k)), (0, .inr (.inr (some 129))), (1, .inl (nI a)), (2, .inl (nI (a + n))), (3, .inl (nI i))], [.inl (nI i), .inl (nI (pi k))], H)) (C := []) rfl trivial ?_
      refine mw_if (P := (nI (pi k)) = (nI i)) (a := 57) (b := 98) (fun _ => rfl) trivial (fun h5 => ?_) (fun h5 => ?_)
      · -- 57: (nI (pi k)) = (nI i)
        have nh5 : (pi k) = i := (nI_eq (by omega) (by omega)).mp (show nI (pi k) = nI i from h5)
        refine mw_go mu_g389 (k := 2) (f1 := (61, [(5, .inl (nI (pa k))), (4, .inl (nI k)), (0, .inr (.inr (some 129))), (1, .inl (nI a)), (2, .inl (nI (a + n))), (3, .inl (nI i))], [.inr (.inr (mu_r H 129 2))], H)) (C := [mu_is H (some 129) 9]) rfl (show mu_is H (some 129) 9 from (h.1.1.is rfl)) ?_
        rw [(h.1.1.r (p := 129) (j := 2) (q := 118) rfl)]
        refine mw_go mu_g389 (k := 2) (f1 := (64, [(5, .inl (nI (pa k))), (4, .inl (nI k)), (0, .inr (.inr (some 129))), (1, .inl (nI a)), (2, .inl (nI (a + n))), (3, .inl (nI i))], [.inl (1 : Int32), .inl (nI k), .inr (.inr (some 118))], H)) (C := []) rfl trivial ?_
        refine mw_cIe (fun _ => rfl) (show mu_is H (some 118) 10 from (h.1.1.is rfl)) (h.getr (d := (d + 2)) e (j := 23) (by decide) rfl (nI k) (c := 1) (by decide)) ?_
        rw [show (tget (U.1 23) (nI k) 1) = (nI (pa k + pn k)) from ((congrArg (fun z => tget z (nI k) 1) (show U.1 23 = (U.1 23) from rfl)).trans (tget_nI (by first | omega | decide))).trans v1]
        refine mw_go mu_g389 (k := 2) (f1 := (70, [(5, .inl (nI (pa k))), (4, .inl (nI k)), (0, .inr (.inr (some 129))), (1, .inl (nI a)), (2, .inl (nI (a + n))), (3, .inl (nI i))], [.inl ((nI (pa k + pn k)) - (nI (pa k)))], H)) (C := []) rfl trivial ?_
        rw [(show ((nI (pa k + pn k)) - (nI (pa k))) = (nI ((pa k + pn k) - (pa k))) from (nI_sub (a := pa k + pn k) (b := pa k) (by omega)))]
        refine mw_go mu_g389 (k := 3) (f1 := (73, [(5, .inl (nI (pa k))), (4, .inl (nI k)), (0, .inr (.inr (some 129))), (1, .inl (nI a)), (2, .inl (nI (a + n))), (3, .inl (nI i))], [.inl ((nI (a + n)) - (nI a)), .inl (nI ((pa k + pn k) - (pa k)))], H)) (C := []) rfl trivial ?_
        rw [(show ((nI (a + n)) - (nI a)) = (nI ((a + n) - a)) from (nI_sub (a := a + n) (b := a) (by omega)))]
        refine mw_if (P := (nI ((pa k + pn k) - (pa k))) = (nI ((a + n) - a))) (a := 76) (b := 98) (fun _ => rfl) trivial (fun h7 => ?_) (fun h7 => ?_)
        · -- 76: (nI ((pa k + pn k) - (pa k))) = (nI ((a + n) - a))
          have nh7 : ((pa k + pn k) - (pa k)) = ((a + n) - a) := (nI_eq (by omega) (by omega)).mp (show nI ((pa k + pn k) - (pa k)) = nI ((a + n) - a) from h7)
          have hpn : pn k = n := by omega
          have hpi : pi k = i := by have y := (hPi k (by omega)).2; omega
          have hrk2 : rgs Y (im Y i) Lk (pa k) (pa k + n) := by rw [← hpn, ← hpi]; exact hrk
          refine mw_go mu_g389 (k := 2) (f1 := (80, [(5, .inl (nI (pa k))), (4, .inl (nI k)), (0, .inr (.inr (some 129))), (1, .inl (nI a)), (2, .inl (nI (a + n))), (3, .inl (nI i))], [.inr (.inr (mu_r H 129 0))], H)) (C := [mu_is H (some 129) 9]) rfl (show mu_is H (some 129) 9 from (h.1.1.is rfl)) ?_
          rw [(h.1.1.r (p := 129) (j := 0) (q := 99) rfl)]
          refine mw_go mu_g389 (k := 1) (f1 := (83, [(5, .inl (nI (pa k))), (4, .inl (nI k)), (0, .inr (.inr (some 129))), (1, .inl (nI a)), (2, .inl (nI (a + n))), (3, .inl (nI i))], [.inr (.inr (mu_r H 99 0))], H)) (C := [mu_is H (some 99) 13]) rfl (show mu_is H (some 99) 13 from (h.1.1.is rfl)) ?_
          rw [(show mu_r H 99 0 = (some m) from (ud_q (U := U) (m := m) (P := 99) (j := 0) e rfl).trans hmo)]
          refine mw_go mu_g389 (k := 5) (f1 := (89, [(5, .inl (nI (pa k))), (4, .inl (nI k)), (0, .inr (.inr (some 129))), (1, .inl (nI a)), (2, .inl (nI (a + n))), (3, .inl (nI i))], [.inl ((nI (a + n)) - (nI a)), .inl (nI a), .inl (nI (pa k)), .inr (.inr (some m))], H)) (C := []) rfl trivial ?_
          rw [(show ((nI (a + n)) - (nI a)) = (nI ((a + n) - a)) from (nI_sub (a := a + n) (b := a) (by omega)))]
          rw [show (nI ((a + n) - a)) = nI n from congrArg nI (by omega)]
          refine mw_go mu_g389 (k := 1) (f1 := (90, [(5, .inl (nI (pa k))), (4, .inl (nI k)), (0, .inr (.inr (some 129))), (1, .inl (nI a)), (2, .inl (nI (a + n))), (3, .inl (nI i))], [.inl (nI i), .inl (nI n), .inl (nI a), .inl (nI (pa k)), .inr (.inr (some m))], H)) (C := []) rfl trivial ?_
          refine mw_cI (fun _ => rfl) (show mu_is H (some m) 6 from (show mu_is H (some m) 6 from gi_im h.1.1 h.2)) (um_alike (d := d) (Y := Y) (a := pa k) (b := a) (n := n) (i := i) h e hj hj0 hj9 hJ hC hi hrk2 hra hb2 hsp) (fun x8 H8 q8 => ?_)
          obtain ⟨hal, hQe⟩ := q8
          rw [hQe]
          refine mw_if (P := x8 = 0) (a := 98) (b := 96) (fun _ => rfl) trivial (fun h9 => ?_) (fun h9 => ?_)
          · -- 98: x8 = 0
            refine mw_go mu_g389 (k := 2) (f1 := (11, [(4, .inl ((nI k) + (-1))), (5, .inl (nI (pa k))), (0, .inr (.inr (some 129))), (1, .inl (nI a)), (2, .inl (nI (a + n))), (3, .inl (nI i))], [], H)) (C := []) rfl trivial ?_
            rw [show ((nI k) + (-1)) = nI k - (1 : Int32) from by rw [Int32.sub_eq_add_neg]]
            exact mw_sub (by simp) (iha k (show 0 ≤ k ∧ k ≤ np from (by omega)) (by show k < j; omega))
          · -- 96: not x8 = 0
            refine mw_go mu_g389 (k := 1) (f1 := (97, [(5, .inl (nI (pa k))), (4, .inl (nI k)), (0, .inr (.inr (some 129))), (1, .inl (nI a)), (2, .inl (nI (a + n))), (3, .inl (nI i))], [.inl (1 : Int32)], H)) (C := []) rfl trivial ?_
            have hA : ALK Y (pa k) a n i := by rcases hal with y | y; (exact y.2); (exact absurd y h9)
            exact mw_of (fun _ => mu_ret rfl (Or.inr rfl) ⟨_, H, rfl, Or.inl ⟨rfl, k, by omega, hpi, hpn, hA⟩, rfl⟩)
        · -- 98: not (nI ((pa k + pn k) - (pa k))) = (nI ((a + n) - a))
          have nh7 : ¬ ((pa k + pn k) - (pa k)) = ((a + n) - a) := fun z => h7 (show nI ((pa k + pn k) - (pa k)) = nI ((a + n) - a) from (nI_eq (by omega) (by omega)).mpr z)
          refine mw_go mu_g389 (k := 2) (f1 := (11, [(4, .inl ((nI k) + (-1))), (5, .inl (nI (pa k))), (0, .inr (.inr (some 129))), (1, .inl (nI a)), (2, .inl (nI (a + n))), (3, .inl (nI i))], [], H)) (C := []) rfl trivial ?_
          rw [show ((nI k) + (-1)) = nI k - (1 : Int32) from by rw [Int32.sub_eq_add_neg]]
          exact mw_sub (by simp) (iha k (show 0 ≤ k ∧ k ≤ np from (by omega)) (by show k < j; omega))
      · -- 98: not (nI (pi k)) = (nI i)
        have nh5 : ¬ (pi k) = i := fun z => h5 (show nI (pi k) = nI i from (nI_eq (by omega) (by omega)).mpr z)
        refine mw_go mu_g389 (k := 2) (f1 := (11, [(4, .inl ((nI k) + (-1))), (5, .inl (nI (pa k))), (0, .inr (.inr (some 129))), (1, .inl (nI a)), (2, .inl (nI (a + n))), (3, .inl (nI i))], [], H)) (C := []) rfl trivial ?_
        rw [show ((nI k) + (-1)) = nI k - (1 : Int32) from by rw [Int32.sub_eq_add_neg]]
        exact mw_sub (by simp) (iha k (show 0 ≤ k ∧ k ≤ np from (by omega)) (by show k < j; omega))
/-- PathProver$Relation.isBranch(III)Z -/
abbrev mu_m395 : ev_M := (6, (some .boolean), [], ev_b395)
theorem mu_g395 : mu_good mu_m395 := mu_goodk ev_k395
theorem rl_branch (h : um m H) (e : ud m H = U) (hmo : U.2.2.2.1 99 0 = some m) (hj : jv Y U.1) (hj0 : U.1 0 = Y 0) (hj9 : U.1 9 = Y 9) (hJ : JW Y) (hC : Cc Y) (hi : i < (Y 11).1) (hib : (Y 11).1 ≤ 67108864) (hra : rgs Y (im Y i) L a (a + n)) (hb2 : (Y 0).1 ≤ 16777216) (hsp : sp Y (im Y i + 1) 6 ≤ 67108864) (hT : ∀ r, 1 ≤ r → r < nb → PCR Y (U.1 27) 2 3 r (pa r) (pn r) i) (hsz : (U.1 27).1 = nb) (hszb : 1 ≤ nb ∧ nb ≤ 67108864) : mu_TI (mu_D (d + 4)) 395 [.inr (.inr (some 129)), .inl (nI a), .inl (nI (a + n)), .inl (nI i)] H (fun r H1 => ((r = 1 ∧ ∃ k, 1 ≤ k ∧ k < nb ∧ pn k = n ∧ ALK Y (pa k) a n i) ∨ r = 0) ∧ H1 = H) := by
  have hba := hra.2.1
  refine mu_meth (M := mu_m395) rfl rfl ?_
  refine mw_ht (mu_fn_of (show [0, 1, 2, 3].Nodup by decide)) ?_
  refine mw_go mu_g395 (k := 2) (f1 := (4, [(0, .inr (.inr (some 129))), (1, .inl (nI a)), (2, .inl (nI (a + n))), (3, .inl (nI i))], [.inr (.inr (mu_r H 129 23))], H)) (C := [mu_is H (some 129) 9]) rfl (show mu_is H (some 129) 9 from (h.1.1.is rfl)) ?_
  rw [(h.1.1.r (p := 129) (j := 23) (q := 167) rfl)]
  refine mw_go mu_g395 (k := 1) (f1 := (7, [(0, .inr (.inr (some 129))), (1, .inl (nI a)), (2, .inl (nI (a + n))), (3, .inl (nI i))], [.inl (mu_i H 167 2)], H)) (C := [mu_is H (some 167) 10]) rfl (show mu_is H (some 167) 10 from (h.1.1.is rfl)) ?_
  rw [(show mu_i H 167 2 = (nI nb) from (h.size e (j := 27) (by decide) rfl).trans (congrArg nI ((congrArg Prod.fst (show U.1 27 = (U.1 27) from rfl)).trans hsz)))]
  refine mw_go mu_g395 (k := 3) (f1 := (11, [(4, .inl ((nI nb) - (1 : Int32))), (0, .inr (.inr (some 129))), (1, .inl (nI a)), (2, .inl (nI (a + n))), (3, .inl (nI i))], [], H)) (C := []) rfl trivial ?_
  refine mw_sub (L' := [(4, .inl ((nI nb) - (1 : Int32))), (0, .inr (.inr (some 129))), (1, .inl (nI a)), (2, .inl (nI (a + n))), (3, .inl (nI i))]) (by simp) ?_
  refine mw_down (α := Nat) (fun zs => (11, [(4, .inl ((nI zs) - (1 : Int32))), (0, .inr (.inr (some 129))), (1, .inl (nI a)), (2, .inl (nI (a + n))), (3, .inl (nI i))], [], H)) (fun zs => zs) (fun zs => (1 ≤ zs ∧ zs ≤ nb)) (fun zs hza iha => ?_) nb (show 1 ≤ nb ∧ nb ≤ nb from (by omega))
  obtain ⟨j, rfl⟩ : ∃ y, y = zs := ⟨zs, rfl⟩
  have hj1 := hza
  have hj1 : 1 ≤ j ∧ j ≤ nb := hj1
  show mu_W _ _ (11, [(4, .inl ((nI j) - (1 : Int32))), (0, .inr (.inr (some 129))), (1, .inl (nI a)), (2, .inl (nI (a + n))), (3, .inl (nI i))], [], H) _
  refine mw_go mu_g395 (k := 1) (f1 := (13, [(4, .inl ((nI j) - (1 : Int32))), (0, .inr (.inr (some 129))), (1, .inl (nI a)), (2, .inl (nI (a + n))), (3, .inl (nI i))], [.inl ((nI j) - (1 : Int32))], H)) (C := []) rfl trivial ?_
  refine mw_if (P := 0 < ((nI j) - (1 : Int32))) (a := 16) (b := 90) (fun _ => rfl) trivial (fun h1 => ?_) (fun h1 => ?_)
  · -- 16: 0 < ((nI j) - (1 : Int32))
    refine mw_go mu_g395 (k := 3) (f1 := (22, [(4, .inl ((nI j) - (1 : Int32))), (0, .inr (.inr (some 129))), (1, .inl (nI a)), (2, .inl (nI (a + n))), (3, .inl (nI i))], [.inr (.inr (mu_r H 129 23)), .inl ((nI j) - (1 : Int32))], H)) (C := [mu_is H (some 129) 9]) rfl (show mu_is H (some 129) 9 from (h.1.1.is rfl)) ?_
    rw [(h.1.1.r (p := 129) (j := 23) (q := 167) rfl)]
    refine mw_go mu_g395 (k := 1) (f1 := (25, [(4, .inl ((nI j) - (1 : Int32))), (0, .inr (.inr (some 129))), (1, .inl (nI a)), (2, .inl (nI (a + n))), (3, .inl (nI i))], [.inl (mu_i H 167 2), .inl ((nI j) - (1 : Int32))], H)) (C := [mu_is H (some 167) 10]) rfl (show mu_is H (some 167) 10 from (h.1.1.is rfl)) ?_
    rw [(show mu_i H 167 2 = (nI nb) from (h.size e (j := 27) (by decide) rfl).trans (congrArg nI ((congrArg Prod.fst (show U.1 27 = (U.1 27) from rfl)).trans hsz)))]
    refine mw_go mu_g395 (k := 2) (f1 := (28, [(4, .inl ((nI j) - (1 : Int32))), (0, .inr (.inr (some 129))), (1, .inl (nI a)), (2, .inl (nI (a + n))), (3, .inl (nI i))], [.inl ((nI nb) - (64 : Int32)), .inl ((nI j) - (1 : Int32))], H)) (C := []) rfl trivial ?_
    refine mw_if (P := ((nI j) - (1 : Int32)) < ((nI nb) - (64 : Int32))) (a := 90) (b := 31) (fun _ => rfl) trivial (fun h2 => ?_) (fun h2 => ?_)
    · -- 90: ((nI j) - (1 : Int32)) < ((nI nb) - (64 : Int32))
      refine mw_go mu_g395 (k := 1) (f1 := (91, [(4, .inl ((nI j) - (1 : Int32))), (0, .inr (.inr (some 129))), (1, .inl (nI a)), (2, .inl (nI (a + n))), (3, .inl (nI i))], [.inl (0 : Int32)], H)) (C := []) rfl trivial ?_
      exact mw_of (fun _ => mu_ret rfl (Or.inl rfl) ⟨_, H, rfl, Or.inr rfl, rfl⟩)
    · -- 31: not ((nI j) - (1 : Int32)) < ((nI nb) - (64 : Int32))
      have hjp : 2 ≤ j := nI_p1 h1 (by omega)
      obtain ⟨k, hk⟩ : ∃ k, k + 1 = j := ⟨j - 1, by omega⟩
      rw [show nI j - (1 : Int32) = nI k from (nI_d1 (by omega)).trans (congrArg nI (by omega))]
      obtain ⟨v0, v1, Lk, hrk⟩ := hT k (by omega) (by omega)
      have hbk := hrk.2.1
      refine mw_go mu_g395 (k := 2) (f1 := (35, [(4, .inl (nI k)), (0, .inr (.inr (some 129))), (1, .inl (nI a)), (2, .inl (nI (a + n))), (3, .inl (nI i))], [.inr (.inr (mu_r H 129 23))], H)) (C := [mu_is H (some 129) 9]) rfl (show mu_is H (some 129) 9 from (h.1.1.is rfl)) ?_
      rw [(h.1.1.r (p := 129) (j := 23) (q := 167) rfl)]
      refine mw_go mu_g395 (k := 2) (f1 := (38, [(4, .inl (nI k)), (0, .inr (.inr (some 129))), (1, .inl (nI a)), (2, .inl (nI (a + n))), (3, .inl (nI i))], [.inl (2 : Int32), .inl (nI k), .inr (.inr (some 167))], H)) (C := []) rfl trivial ?_
      refine mw_cIe (fun _ => rfl) (show mu_is H (some 167) 10 from (h.1.1.is rfl)) (h.getr (d := (d + 2)) e (j := 27) (by decide) rfl (nI k) (c := 2) (by decide)) ?_
      rw [show (tget (U.1 27) (nI k) 2) = (nI (pa k)) from ((congrArg (fun z => tget z (nI k) 2) (show U.1 27 = (U.1 27) from rfl)).trans (tget_nI (by first | omega | decide))).trans v0]
      refine mw_go mu_g395 (k := 3) (f1 := (47, [(5, .inl (nI (pa k))), (4, .inl (nI k)), (0, .inr (.inr (some 129))), (1, .inl (nI a)), (2, .inl (nI (a + n))), (3, .inl (nI i))], [.inr (.inr (mu_r H 129 23))], H)) (C := [mu_is H (some 129) 9]) rfl (show mu_is H (some 129) 9 from (h.1.1.is rfl)) ?_
      rw [(h.1.1.r (p := 129) (j := 23) (q := 167) rfl)]
      refine mw_go mu_g395 (k := 2) (f1 := (50, [(5, .inl (nI (pa k))), (4, .inl (nI k)), (0, .inr (.inr (some 129))), (1, .inl (nI a)), (2, .inl (nI (a + n))), (3, .inl (nI i))], [.inl (3 : Int32), .inl (nI k), .inr (.inr (some 167))], H)) (C := []) rfl trivial ?_
      refine mw_cIe (fun _ => rfl) (show mu_is H (some 167) 10 from (h.1.1.is rfl)) (h.getr (d := (d + 2)) e (j := 27) (by decide) rfl (nI k) (c := 3) (by decide)) ?_
      rw [show (tget (U.1 27) (nI k) 3) = (nI (pa k + pn k)) from ((congrArg (fun z => tget z (nI k) 3) (show U.1 27 = (U.1 27) from rfl)).trans (tget_nI (by first | omega | decide))).trans v1]
      refine mw_go mu_g395 (k := 2) (f1 := (56, [(5, .inl (nI (pa k))), (4, .inl (nI k)), (0, .inr (.inr (some 129))), (1, .inl (nI a)), (2, .inl (nI (a + n))), (3, .inl (nI i))], [.inl ((nI (pa k + pn k)) - (nI (pa k)))], H)) (C := []) rfl trivial ?_
      rw [(show ((nI (pa k + pn k)) - (nI (pa k))) = (nI ((pa k + pn k) - (pa k))) from (nI_sub (a := pa k + pn k) (b := pa k) (by omega)))]
      refine mw_go mu_g395 (k := 3) (f1 := (59, [(5, .inl (nI (pa k))), (4, .inl (nI k)), (0, .inr (.inr (some 129))), (1, .inl (nI a)), (2, .inl (nI (a + n))), (3, .inl (nI i))], [.inl ((nI (a + n)) - (nI a)), .inl (nI ((pa k + pn k) - (pa k)))], H)) (C := []) rfl trivial ?_
      rw [(show ((nI (a + n)) - (nI a)) = (nI ((a + n) - a)) from (nI_sub (a := a + n) (b := a) (by omega)))]
      refine mw_if (P := (nI ((pa k + pn k) - (pa k))) = (nI ((a + n) - a))) (a := 62) (b := 84) (fun _ => rfl) trivial (fun h5 => ?_) (fun h5 => ?_)
      · -- 62: (nI ((pa k + pn k) - (pa k))) = (nI ((a + n) - a))
        have nh5 : ((pa k + pn k) - (pa k)) = ((a + n) - a) := (nI_eq (by omega) (by omega)).mp (show nI ((pa k + pn k) - (pa k)) = nI ((a + n) - a) from h5)
        have hpn : pn k = n := by omega
        have hrk2 : rgs Y (im Y i) Lk (pa k) (pa k + n) := by rw [← hpn]; exact hrk
        refine mw_go mu_g395 (k := 2) (f1 := (66, [(5, .inl (nI (pa k))), (4, .inl (nI k)), (0, .inr (.inr (some 129))), (1, .inl (nI a)), (2, .inl (nI (a + n))), (3, .inl (nI i))], [.inr (.inr (mu_r H 129 0))], H)) (C := [mu_is H (some 129) 9]) rfl (show mu_is H (some 129) 9 from (h.1.1.is rfl)) ?_
        rw [(h.1.1.r (p := 129) (j := 0) (q := 99) rfl)]
        refine mw_go mu_g395 (k := 1) (f1 := (69, [(5, .inl (nI (pa k))), (4, .inl (nI k)), (0, .inr (.inr (some 129))), (1, .inl (nI a)), (2, .inl (nI (a + n))), (3, .inl (nI i))], [.inr (.inr (mu_r H 99 0))], H)) (C := [mu_is H (some 99) 13]) rfl (show mu_is H (some 99) 13 from (h.1.1.is rfl)) ?_
        rw [(show mu_r H 99 0 = (some m) from (ud_q (U := U) (m := m) (P := 99) (j := 0) e rfl).trans hmo)]
        refine mw_go mu_g395 (k := 5) (f1 := (75, [(5, .inl (nI (pa k))), (4, .inl (nI k)), (0, .inr (.inr (some 129))), (1, .inl (nI a)), (2, .inl (nI (a + n))), (3, .inl (nI i))], [.inl ((nI (a + n)) - (nI a)), .inl (nI a), .inl (nI (pa k)), .inr (.inr (some m))], H)) (C := []) rfl trivial ?_
        rw [(show ((nI (a + n)) - (nI a)) = (nI ((a + n) - a)) from (nI_sub (a := a + n) (b := a) (by omega)))]
        rw [show (nI ((a + n) - a)) = nI n from congrArg nI (by omega)]
        refine mw_go mu_g395 (k := 1) (f1 := (76, [(5, .inl (nI (pa k))), (4, .inl (nI k)), (0, .inr (.inr (some 129))), (1, .inl (nI a)), (2, .inl (nI (a + n))), (3, .inl (nI i))], [.inl (nI i), .inl (nI n), .inl (nI a), .inl (nI (pa k)), .inr (.inr (some m))], H)) (C := []) rfl trivial ?_
        refine mw_cI (fun _ => rfl) (show mu_is H (some m) 6 from (show mu_is H (some m) 6 from gi_im h.1.1 h.2)) (um_alike (d := d) (Y := Y) (a := pa k) (b := a) (n := n) (i := i) h e hj hj0 hj9 hJ hC hi hrk2 hra hb2 hsp) (fun x6 H6 q6 => ?_)
        obtain ⟨hal, hQe⟩ := q6
        rw [hQe]
        refine mw_if (P := x6 = 0) (a := 84) (b := 82) (fun _ => rfl) trivial (fun h7 => ?_) (fun h7 => ?_)
        · -- 84: x6 = 0
          refine mw_go mu_g395 (k := 2) (f1 := (11, [(4, .inl ((nI k) + (-1))), (5, .inl (nI (pa k))), (0, .inr (.inr (some 129))), (1, .inl (nI a)), (2, .inl (nI (a + n))), (3, .inl (nI i))], [], H)) (C := []) rfl trivial ?_
          rw [show ((nI k) + (-1)) = nI k - (1 : Int32) from by rw [Int32.sub_eq_add_neg]]
          exact mw_sub (by simp) (iha k (show 1 ≤ k ∧ k ≤ nb from (by omega)) (by show k < j; omega))
        · -- 82: not x6 = 0
          refine mw_go mu_g395 (k := 1) (f1 := (83, [(5, .inl (nI (pa k))), (4, .inl (nI k)), (0, .inr (.inr (some 129))), (1, .inl (nI a)), (2, .inl (nI (a + n))), (3, .inl (nI i))], [.inl (1 : Int32)], H)) (C := []) rfl trivial ?_
          have hA : ALK Y (pa k) a n i := by rcases hal with y | y; (exact y.2); (exact absurd y h7)
          exact mw_of (fun _ => mu_ret rfl (Or.inr rfl) ⟨_, H, rfl, Or.inl ⟨rfl, k, by omega, by omega, hpn, hA⟩, rfl⟩)
      · -- 84: not (nI ((pa k + pn k) - (pa k))) = (nI ((a + n) - a))
        have nh5 : ¬ ((pa k + pn k) - (pa k)) = ((a + n) - a) := fun z => h5 (show nI ((pa k + pn k) - (pa k)) = nI ((a + n) - a) from (nI_eq (by omega) (by omega)).mpr z)
        refine mw_go mu_g395 (k := 2) (f1 := (11, [(4, .inl ((nI k) + (-1))), (5, .inl (nI (pa k))), (0, .inr (.inr (some 129))), (1, .inl (nI a)), (2, .inl (nI (a + n))), (3, .inl (nI i))], [], H)) (C := []) rfl trivial ?_
        rw [show ((nI k) + (-1)) = nI k - (1 : Int32) from by rw [Int32.sub_eq_add_neg]]
        exact mw_sub (by simp) (iha k (show 1 ≤ k ∧ k ≤ nb from (by omega)) (by show k < j; omega))
  · -- 90: not 0 < ((nI j) - (1 : Int32))
    refine mw_go mu_g395 (k := 1) (f1 := (91, [(4, .inl ((nI j) - (1 : Int32))), (0, .inr (.inr (some 129))), (1, .inl (nI a)), (2, .inl (nI (a + n))), (3, .inl (nI i))], [.inl (0 : Int32)], H)) (C := []) rfl trivial ?_
    exact mw_of (fun _ => mu_ret rfl (Or.inl rfl) ⟨_, H, rfl, Or.inr rfl, rfl⟩)
end There
