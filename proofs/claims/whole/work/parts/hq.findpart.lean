/-! PROVER: a part without a set is loaded and gets one -/
section FindPart
variable {H : mu_H} {U V V' W : Ud} {m d P q fb nf nw nb N us r s n k b sz at0 i0 sc a i L c p0 : Nat} {C : Nat → Nat} {Y : Ts} {f od bs lv lc wa wn wi cl ro zz st : Nat → Nat} {es : Nat → Int32} {nm tm : Nat → Int32} {wk pp : Nat → Bool} {S : Nat → Nat → Bool} {bo oid : Nat → Nat → Nat} {Gr : Nat → Nat → Prop} {al Q : Nat → Prop} {F : Uf} {js : Nat → Option Nat}
/-- the rows stay where another piece of code is loaded -/
theorem RDX.keepL (h : RDX V m od Y es P f fb q Gr N us S zz pp nf nm tm bs lv lc oid nw wa wn wi wk nb bo cl al ro) (hq : uq F V V') (hr : rok4 F = true) (n10' : in2 F.n 129 10 = false) (i9' : in2 F.i 99 9 = false) (hK : RSK m V' Y P f od es) (ep : V'.2.2.2.2.2 114 = V.2.2.2.2.2 114) : RDX V' m od Y es P f fb q Gr N us S zz pp nf nm tm bs lv lc oid nw wa wn wi wk nb bo cl al ro := by
  unfold rok4 at hr
  simp only [Bool.and_eq_true, Bool.not_eq_true'] at hr
  obtain ⟨t15, t24, t25, t27, i1, i2, i5, a4, a3, a13, a98, i8, a6, a7, a8, a15, n12, l145, l124⟩ := hr
  obtain ⟨⟨h1, hlc⟩, ⟨k1, k2, k3, k4, k5⟩, h3, ⟨c1, c2⟩, ⟨w1, w2⟩, h6, h7, h8⟩ := h
  have n10 := hq.n 129 10 n10'
  have i9 := hq.i 99 9 i9'
  obtain ⟨g1, g2, g3, g4, g5, ⟨g6, g6b, g6c⟩, g7, g8, g9, g10, g11⟩ := h1.2.2.2.2.2
  have e15 := hq.t 15 t15
  have e24 := hq.t 24 t24
  have e25 := hq.t 25 t25
  have e27 := hq.t 27 t27
  have b4 := hq.a 129 4 a4
  have b98 := hq.a 99 8 a98
  have hrm : ∀ s t, (MNB Y V' P f od S nf nm tm oid nw wa wn wi wk nb bo s t ↔ MNB Y V P f od S nf nm tm oid nw wa wn wi wk nb bo s t) := fun s t => mnb_to (U := V) g1 h1.1.2.1 g6b (fun _ _ => rfl) e25 e15 b98
  exact ⟨⟨⟨hK.1, hK.2.1, hK.2.2.1, hK.2.2.2.1, hK.2.2.2.2.1, by unfold FAC at g1 ⊢; rw [e24, b4]; exact g1, g2.eq (hq.i 113 1 i1) (hq.i 113 2 i2) (hq.i 113 5 i5) (hq.a 113 3 a3) (hq.a 113 4 a13) ep, by rw [e15, e25]; exact g3, by unfold CHN at g4 ⊢; rw [e24, hq.a 129 15 a15]; exact g4, vdf_same g5 i9 b98, ⟨by unfold BRT at g6 ⊢; rw [e27]; exact g6, g6b, g6c⟩, g7, by rw [hq.n 129 12 n12]; exact g8, by rw [hq.n 129 12 n12]; exact g9, by rw [n10]; exact g10, by rw [n10]; exact g11⟩, hlc⟩, ⟨k1.same4 (hq.i 113 5 i5) (hq.a 113 3 a3) (hq.a 113 4 a13) ep, k2, k3, (hq.i 113 8 i8).trans k4, k5⟩, by rw [hq.a 129 6 a6, hq.a 129 7 a7, hq.a 129 8 a8]; exact h3, ⟨by rw [hq.a 129 7 a7]; exact c1, fun s s' hs1 hs2 hc t ht => (hrm s t).trans ((c2 s s' hs1 hs2 hc t ht).trans (hrm s' t).symm)⟩, ⟨by rw [hq.l 145 l145]; exact w1, fun s t hs1 ht => (w2 s t hs1 ht).trans (and_congr Iff.rfl (hrm s t).symm)⟩, by rw [hq.a 129 6 a6, hq.l 124 l124]; exact h6, by rw [hq.a 129 8 a8]; exact h7, h8⟩
theorem RDX.rsk (h : RDX V m od Y es P f fb q Gr N us S zz pp nf nm tm bs lv lc oid nw wa wn wi wk nb bo cl al ro) : RSK m V Y P f od es := by
  obtain ⟨⟨⟨h1, h2, h3, h4, h5, g1, g2, g3, g4, g5, g6, g7, g8, g9, g10, g11⟩, -⟩, -⟩ := h
  exact ⟨h1, h2, h3, h4, h5, g5, g10, g11⟩
/-- where a part of the stack ends -/
def pen (sz at0 : Nat) (st : Nat → Nat) (k : Nat) : Nat := if k + 1 < sz then st (k + 1) else at0
theorem PLS.keepq (h : PLS U) (hq : uq F U V) (h1 : ∀ c, in2 F.n 161 c = false) (h2 : ∀ c, in2 F.n 163 c = false) (hp : F.p = false) : PLS V := by
  have ep : V.2.2.2.2.2 = U.2.2.2.2.2 := hq.2.2.2.2.2 hp
  refine ⟨fun c hc => ?_, fun c hc => ?_⟩
  · rcases h.1 c hc with y | ⟨q, y⟩
    · exact Or.inl (by rw [ep]; exact y)
    · exact Or.inr ⟨q, y.q hq h1 h2 hp⟩
  · rcases h.2 c hc with y | ⟨q, L, y1, y⟩
    · exact Or.inl (by rw [ep]; exact y)
    · exact Or.inr ⟨q, L, y1, y.q hq h1 h2 hp⟩
/-- PathProver$Prover.findPart(I)Z -/
abbrev mu_m349 : ev_M := (3, (some .boolean), [], ev_b349)
theorem mu_g349 : mu_good mu_m349 := mu_goodk ev_k349
theorem pr_findPart (h : um m H) (e : ud m H = U) (hK : RSK m U Y P f od es) (hPL : PLS U) (hC1 : 2 * (((Y 13).1 + 2) * 4) + 4 ≤ C 21) (hC2 : C 21 ≤ 8388608) (hsc : U.2.1 158 4 = nI sc) (hscb : sc ≤ 247) (hat : U.2.1 158 16 = nI at0) (hatb : at0 < 2147483648) (hwh : U.2.1 158 18 = nI i0) (hi0 : i0 < (Y 11).1) (hz : (U.1 26).1 = sz) (hzb : sz < 2147483646) (hb : b ≤ sz) (hjs : ∀ k, k < sz → (U.1 26).2 k 1 = sI (js k)) (hjb : ∀ k, k < sz → ∀ j, js k = some j → j < 2147483648) (hst : ∀ k, k < sz → (U.1 26).2 k 0 = nI (st k) ∧ st k < 2147483648) (hpc : ∀ k, k < sz → js k = none → ∃ Lk n, rgs Y (im Y i0) Lk (st k) (st k + n) ∧ pen sz at0 st k = st k + n) : mu_TI (mu_D (d + 6)) 349 [.inr (.inr (some 158)), .inl (nI b)] H (fun x H1 => (x = 0 ∧ (∀ k, b ≤ k → k < sz → ¬ js k = none) ∧ H = H1) ∨ (x = 1 ∧ um m H1 ∧ ur m C H H1 ∧ ∃ (k n q0 : Nat) (W W1 : Ud), (b ≤ k ∧ k < sz) ∧ js k = none ∧ (∀ i, b ≤ i → i < k → ¬ js i = none) ∧ pen sz at0 st k = st k + n ∧ uq F203 U W ∧ RSKL m W Y P f od es (st k) n i0 ∧ (W1 = W ∨ (W.2.2.2.2.2 161 sc = none ∧ W1 = upR (upC W 161 sc 256) 161 sc (some q0))) ∧ LSN W1 161 sc q0 256 ∧ ud m H1 = upR (upT (upI W1 158 4 (nI (sc + 1))) (ax 26 W1.1 (nI k) 1 (nI sc))) 158 22 (some q0))) := by
  refine mu_meth (M := mu_m349) rfl rfl ?_
  refine mw_ht (mu_fn_of (show [0, 1].Nodup by decide)) ?_
  refine mw_go mu_g349 (k := 2) (f1 := (2, [(2, .inl (nI b)), (0, .inr (.inr (some 158))), (1, .inl (nI b))], [], H)) (C := []) rfl trivial ?_
  refine mw_sub (L' := [(2, .inl (nI b)), (0, .inr (.inr (some 158))), (1, .inl (nI b))]) (by simp) ?_
  refine mw_down (α := Nat) (fun zs => (2, [(2, .inl (nI zs)), (0, .inr (.inr (some 158))), (1, .inl (nI b))], [], H)) (fun zs => sz + 1 - zs) (fun zs => (b ≤ zs ∧ zs ≤ sz) ∧ (∀ i, b ≤ i → i < zs → ¬ js i = none)) (fun zs hza iha => ?_) b ⟨(show b ≤ b ∧ b ≤ sz from (by omega)), (show ∀ i, b ≤ i → i < b → ¬ js i = none from (fun i i1 i2 => absurd i2 (by omega)))⟩
  obtain ⟨k, rfl⟩ : ∃ y, y = zs := ⟨zs, rfl⟩
  obtain ⟨hkk, hno⟩ := hza
  have hkk : b ≤ k ∧ k ≤ sz := hkk
  have hno : ∀ i, b ≤ i → i < k → ¬ js i = none := hno
  show mu_W _ _ (2, [(2, .inl (nI k)), (0, .inr (.inr (some 158))), (1, .inl (nI b))], [], H) _
  refine mw_go mu_g349 (k := 3) (f1 := (7, [(2, .inl (nI k)), (0, .inr (.inr (some 158))), (1, .inl (nI b))], [.inr (.inr (mu_r H 158 2)), .inl (nI k)], H)) (C := [mu_is H (some 158) 8]) rfl (show mu_is H (some 158) 8 from (h.1.1.is rfl)) ?_
  rw [(h.1.1.r (p := 158) (j := 2) (q := 159) rfl)]
  refine mw_go mu_g349 (k := 1) (f1 := (10, [(2, .inl (nI k)), (0, .inr (.inr (some 158))), (1, .inl (nI b))], [.inl (mu_i H 159 2), .inl (nI k)], H)) (C := [mu_is H (some 159) 10]) rfl (show mu_is H (some 159) 10 from (h.1.1.is rfl)) ?_
  rw [(show mu_i H 159 2 = (nI sz) from (h.size e (j := 26) (by decide) rfl).trans (congrArg nI ((congrArg Prod.fst (show U.1 26 = (U.1 26) from rfl)).trans hz)))]
  refine mw_if (P := (nI k) < (nI sz)) (a := 13) (b := 118) (fun _ => rfl) trivial (fun h1 => ?_) (fun h1 => ?_)
  · -- 13: (nI k) < (nI sz)
    have nh1 : k < sz := (nI_ltI (by omega) (by omega)).mp (show nI k < nI sz from h1)
    refine mw_go mu_g349 (k := 2) (f1 := (17, [(2, .inl (nI k)), (0, .inr (.inr (some 158))), (1, .inl (nI b))], [.inr (.inr (mu_r H 158 2))], H)) (C := [mu_is H (some 158) 8]) rfl (show mu_is H (some 158) 8 from (h.1.1.is rfl)) ?_
    rw [(h.1.1.r (p := 158) (j := 2) (q := 159) rfl)]
    refine mw_go mu_g349 (k := 2) (f1 := (19, [(2, .inl (nI k)), (0, .inr (.inr (some 158))), (1, .inl (nI b))], [.inl (1 : Int32), .inl (nI k), .inr (.inr (some 159))], H)) (C := []) rfl trivial ?_
    refine mw_cIe (fun _ => rfl) (show mu_is H (some 159) 10 from (h.1.1.is rfl)) (h.getr (d := (d + 4)) e (j := 26) (by decide) rfl (nI k) (c := 1) (by decide)) ?_
    rw [show (tget (U.1 26) (nI k) 1) = (sI (js k)) from ((congrArg (fun z => tget z (nI k) 1) (show U.1 26 = (U.1 26) from rfl)).trans (tget_nI (by first | omega | decide))).trans (hjs k (by omega))]
    refine mw_if (P := (sI (js k)) < 0) (a := 25) (b := 112) (fun _ => rfl) trivial (fun h3 => ?_) (fun h3 => ?_)
    · -- 25: (sI (js k)) < 0
      have hjk : js k = none := (sI_neg (hjb k (by omega))).mp h3
      obtain ⟨Lk, n, hrg, hen⟩ := hpc k (by omega) hjk
      have hstb := (hst k (by omega)).2
      refine mw_go mu_g349 (k := 2) (f1 := (29, [(2, .inl (nI k)), (0, .inr (.inr (some 158))), (1, .inl (nI b))], [.inr (.inr (mu_r H 158 0))], H)) (C := [mu_is H (some 158) 8]) rfl (show mu_is H (some 158) 8 from (h.1.1.is rfl)) ?_
      rw [(h.1.1.r (p := 158) (j := 0) (q := 99) rfl)]
      refine mw_go mu_g349 (k := 1) (f1 := (32, [(2, .inl (nI k)), (0, .inr (.inr (some 158))), (1, .inl (nI b))], [.inr (.inr (mu_r H 99 1))], H)) (C := [mu_is H (some 99) 13]) rfl (show mu_is H (some 99) 13 from (h.1.1.is rfl)) ?_
      rw [(h.1.1.r (p := 99) (j := 1) (q := 100) rfl)]
      refine mw_go mu_g349 (k := 2) (f1 := (36, [(2, .inl (nI k)), (0, .inr (.inr (some 158))), (1, .inl (nI b))], [.inr (.inr (mu_r H 158 2)), .inr (.inr (some 100))], H)) (C := [mu_is H (some 158) 8]) rfl (show mu_is H (some 158) 8 from (h.1.1.is rfl)) ?_
      rw [(h.1.1.r (p := 158) (j := 2) (q := 159) rfl)]
      refine mw_go mu_g349 (k := 2) (f1 := (38, [(2, .inl (nI k)), (0, .inr (.inr (some 158))), (1, .inl (nI b))], [.inl (0 : Int32), .inl (nI k), .inr (.inr (some 159)), .inr (.inr (some 100))], H)) (C := []) rfl trivial ?_
      refine mw_cIe (fun _ => rfl) (show mu_is H (some 159) 10 from (h.1.1.is rfl)) (h.getr (d := (d + 4)) e (j := 26) (by decide) rfl (nI k) (c := 0) (by decide)) ?_
      rw [show (tget (U.1 26) (nI k) 0) = (nI (st k)) from ((congrArg (fun z => tget z (nI k) 0) (show U.1 26 = (U.1 26) from rfl)).trans (tget_nI (by first | omega | decide))).trans (hst k (by omega)).1]
      refine mw_go mu_g349 (k := 3) (f1 := (44, [(2, .inl (nI k)), (0, .inr (.inr (some 158))), (1, .inl (nI b))], [.inl ((nI k) + (1 : Int32)), .inl (nI (st k)), .inr (.inr (some 100))], H)) (C := []) rfl trivial ?_
      rw [(show ((nI k) + (1 : Int32)) = (nI (k + 1)) from (nI_add k 1))]
      refine mw_go mu_g349 (k := 2) (f1 := (48, [(2, .inl (nI k)), (0, .inr (.inr (some 158))), (1, .inl (nI b))], [.inr (.inr (mu_r H 158 2)), .inl (nI (k + 1)), .inl (nI (st k)), .inr (.inr (some 100))], H)) (C := [mu_is H (some 158) 8]) rfl (show mu_is H (some 158) 8 from (h.1.1.is rfl)) ?_
      rw [(h.1.1.r (p := 158) (j := 2) (q := 159) rfl)]
      refine mw_go mu_g349 (k := 1) (f1 := (51, [(2, .inl (nI k)), (0, .inr (.inr (some 158))), (1, .inl (nI b))], [.inl (mu_i H 159 2), .inl (nI (k + 1)), .inl (nI (st k)), .inr (.inr (some 100))], H)) (C := [mu_is H (some 159) 10]) rfl (show mu_is H (some 159) 10 from (h.1.1.is rfl)) ?_
      rw [(show mu_i H 159 2 = (nI sz) from (h.size e (j := 26) (by decide) rfl).trans (congrArg nI ((congrArg Prod.fst (show U.1 26 = (U.1 26) from rfl)).trans hz)))]
      refine mw_if (P := (nI (k + 1)) < (nI sz)) (a := 54) (b := 68) (fun _ => rfl) trivial (fun h5 => ?_) (fun h5 => ?_)
      · -- 54: (nI (k + 1)) < (nI sz)
        have nh5 : (k + 1) < sz := (nI_ltI (by omega) (by omega)).mp (show nI (k + 1) < nI sz from h5)
        refine mw_go mu_g349 (k := 2) (f1 := (58, [(2, .inl (nI k)), (0, .inr (.inr (some 158))), (1, .inl (nI b))], [.inr (.inr (mu_r H 158 2)), .inl (nI (st k)), .inr (.inr (some 100))], H)) (C := [mu_is H (some 158) 8]) rfl (show mu_is H (some 158) 8 from (h.1.1.is rfl)) ?_
        rw [(h.1.1.r (p := 158) (j := 2) (q := 159) rfl)]
        refine mw_go mu_g349 (k := 3) (f1 := (61, [(2, .inl (nI k)), (0, .inr (.inr (some 158))), (1, .inl (nI b))], [.inl ((nI k) + (1 : Int32)), .inr (.inr (some 159)), .inl (nI (st k)), .inr (.inr (some 100))], H)) (C := []) rfl trivial ?_
        rw [(show ((nI k) + (1 : Int32)) = (nI (k + 1)) from (nI_add k 1))]
        refine mw_go mu_g349 (k := 1) (f1 := (62, [(2, .inl (nI k)), (0, .inr (.inr (some 158))), (1, .inl (nI b))], [.inl (0 : Int32), .inl (nI (k + 1)), .inr (.inr (some 159)), .inl (nI (st k)), .inr (.inr (some 100))], H)) (C := []) rfl trivial ?_
        refine mw_cIe (fun _ => rfl) (show mu_is H (some 159) 10 from (h.1.1.is rfl)) (h.getr (d := (d + 4)) e (j := 26) (by decide) rfl (nI (k + 1)) (c := 0) (by decide)) ?_
        rw [show (tget (U.1 26) (nI (k + 1)) 0) = (nI (st (k + 1))) from ((congrArg (fun z => tget z (nI (k + 1)) 0) (show U.1 26 = (U.1 26) from rfl)).trans (tget_nI (by first | omega | decide))).trans (hst (k + 1) (by omega)).1]
        refine mw_go mu_g349 (k := 3) (f1 := (76, [(2, .inl (nI k)), (0, .inr (.inr (some 158))), (1, .inl (nI b))], [.inl (mu_i H 158 18), .inl (nI (st (k + 1))), .inl (nI (st k)), .inr (.inr (some 100))], H)) (C := [mu_is H (some 158) 8]) rfl (show mu_is H (some 158) 8 from (h.1.1.is rfl)) ?_
        rw [(show mu_i H 158 18 = (nI i0) from (ud_i (U := U) (m := m) (P := 158) (j := 18) e rfl).trans hwh)]
        rw [show (nI (st (k + 1))) = nI (st k + n) from congrArg nI (show st (k + 1) = st k + n by unfold pen at hen; first | (rw [if_pos (by omega)] at hen; omega) | (rw [if_neg (by omega)] at hen; omega))]
        refine mw_cV (fun _ => rfl) (show mu_is H (some 100) 5 from (h.1.1.is rfl)) (rl_loadP (d := d) (C := C) (a := st k) (n := n) (i := i0) h e hK hi0 hrg hC1 hC2) (fun Q7 q7 => ?_)
        obtain ⟨u7, r7, z7, hKL⟩ := q7
        have ht7 : ur m C H Q7 := (ur.refl m C H).trans r7
        obtain ⟨W, d7⟩ : ∃ V, ud m Q7 = V := ⟨_, rfl⟩
        rw [d7] at z7 hKL
        have hPW : PLS W := hPL.keepq z7 (fun _ => rfl) (fun _ => rfl) rfl
        have hzW : (W.1 26).1 = sz := by rw [z7.t 26 rfl]; exact hz
        have hscW : W.2.1 158 4 = nI sc := (z7.i 158 4 rfl).trans hsc
        refine mw_go mu_g349 (k := 2) (f1 := (83, [(2, .inl (nI k)), (0, .inr (.inr (some 158))), (1, .inl (nI b))], [.inr (.inr (mu_r Q7 158 2))], Q7)) (C := [mu_is Q7 (some 158) 8]) rfl (show mu_is Q7 (some 158) 8 from (u7.1.1.is rfl)) ?_
        rw [(u7.1.1.r (p := 158) (j := 2) (q := 159) rfl)]
        refine mw_go mu_g349 (k := 3) (f1 := (86, [(2, .inl (nI k)), (0, .inr (.inr (some 158))), (1, .inl (nI b))], [.inr (.inr (some 158)), .inl (1 : Int32), .inl (nI k), .inr (.inr (some 159))], Q7)) (C := []) rfl trivial ?_
        rcases hPW.1 sc (by omega) with hnone | ⟨q0, hset⟩
        · -- new set: n
          refine mw_cI (fun _ => rfl) (show mu_is Q7 (some 158) 8 from (u7.1.1.is rfl)) (pr_newSetn (d := (d + 3)) (C := C) u7 d7 hscW hscb hnone) (fun x8 Q8 q8 => ?_)
          obtain ⟨rfl, u8, r8, q0, d8⟩ := q8
          have hset : LSN (upR (upC W 161 sc 256) 161 sc (some q0)) 161 sc q0 256 := nw_lsn (Or.inl rfl) (plp161 (by omega))
          have ht8 : ur m C H Q8 := ht7.trans r8
          refine mw_cV (fun _ => rfl) (show mu_is Q8 (some 159) 10 from (u8.1.1.is rfl)) (u8.setr (C := C) (d := (d + 4)) d8 (j := 26) (Or.inr ⟨by decide, by decide⟩) rfl (nI k) (nI sc) (c := 1) (by decide)) (fun Q9 q9 => ?_)
          obtain ⟨u9, r9, d9⟩ := q9
          have ht9 : ur m C H Q9 := ht8.trans r9
          refine mw_go mu_g349 (k := 3) (f1 := (97, [(2, .inl (nI k)), (0, .inr (.inr (some 158))), (1, .inl (nI b))], [.inr (.inr (mu_r Q9 158 3)), .inr (.inr (some 158))], Q9)) (C := [mu_is Q9 (some 158) 8]) rfl (show mu_is Q9 (some 158) 8 from (u9.1.1.is rfl)) ?_
          rw [(u9.1.1.r (p := 158) (j := 3) (q := 161) rfl)]
          refine mw_go mu_g349 (k := 2) (f1 := (101, [(2, .inl (nI k)), (0, .inr (.inr (some 158))), (1, .inl (nI b))], [.inr (.inr (mu_r Q9 158 2)), .inr (.inr (some 161)), .inr (.inr (some 158))], Q9)) (C := [mu_is Q9 (some 158) 8]) rfl (show mu_is Q9 (some 158) 8 from (u9.1.1.is rfl)) ?_
          rw [(u9.1.1.r (p := 158) (j := 2) (q := 159) rfl)]
          refine mw_go mu_g349 (k := 2) (f1 := (103, [(2, .inl (nI k)), (0, .inr (.inr (some 158))), (1, .inl (nI b))], [.inl (1 : Int32), .inl (nI k), .inr (.inr (some 159)), .inr (.inr (some 161)), .inr (.inr (some 158))], Q9)) (C := []) rfl trivial ?_
          refine mw_cIe (fun _ => rfl) (show mu_is Q9 (some 159) 10 from (u9.1.1.is rfl)) (u9.getr (d := (d + 4)) d9 (j := 26) (by decide) rfl (nI k) (c := 1) (by decide)) ?_
          rw [show (tget ((upT (upI (upR (upC W 161 sc 256) 161 sc (some q0)) 158 4 (nI (sc + 1))) (ax 26 (upI (upR (upC W 161 sc 256) 161 sc (some q0)) 158 4 (nI (sc + 1))).1 (nI k) 1 (nI sc))).1 26) (nI k) 1) = (nI sc) from ((congrArg (fun z => tget z (nI k) 1) (show (upT (upI (upR (upC W 161 sc 256) 161 sc (some q0)) 158 4 (nI (sc + 1))) (ax 26 (upI (upR (upC W 161 sc 256) 161 sc (some q0)) 158 4 (nI (sc + 1))).1 (nI k) 1 (nI sc))).1 26 = ((upT (upI (upR (upC W 161 sc 256) 161 sc (some q0)) 158 4 (nI (sc + 1))) (ax 26 (upI (upR (upC W 161 sc 256) 161 sc (some q0)) 158 4 (nI (sc + 1))).1 (nI k) 1 (nI sc))).1 26) from rfl)).trans (tget_nI (by first | omega | decide))).trans (ax_hit (by show k < (W.1 26).1; rw [hzW]; omega) (by decide) (by omega))]
          have ka11 : mu_r Q9 161 sc = some q0 := (dR_pool d9 (Or.inl rfl) (plp161 (show sc < 248 by omega))).trans (LSN.ref (show LSN (upT (upI (upR (upC W 161 sc 256) 161 sc (some q0)) 158 4 (nI (sc + 1))) (ax 26 (upI (upR (upC W 161 sc 256) 161 sc (some q0)) 158 4 (nI (sc + 1))).1 (nI k) 1 (nI sc))) 161 sc q0 _ from (show LSN _ 161 sc q0 256 from hset)) (Or.inl rfl))
          refine mw_go mu_g349 (k := 1) (f1 := (107, [(2, .inl (nI k)), (0, .inr (.inr (some 158))), (1, .inl (nI b))], [.inr (.inr (mu_r Q9 161 (nI sc).toNatClampNeg)), .inr (.inr (some 158))], Q9)) (C := [mu_is Q9 (some 161) (mu_k Q9 161), 103 ≤ mu_k Q9 161 ∧ mu_k Q9 161 ≤ 110 ∧ mu_k Q9 161 ≠ 108, vp_in (nI sc) (mu_n Q9 161)]) rfl (show (mu_is Q9 (some 161) (mu_k Q9 161)) ∧ (103 ≤ mu_k Q9 161 ∧ mu_k Q9 161 ≤ 110 ∧ mu_k Q9 161 ≠ 108) ∧ (vp_in (nI sc) (mu_n Q9 161)) from ⟨(by have z := (u9.1.1.a (p := 161) (x := (104, 248)) rfl).1; rw [show mu_k Q9 161 = 104 from z.2.2]; exact z), (by have z := (u9.1.1.a (p := 161) (x := (104, 248)) rfl).1; rw [show mu_k Q9 161 = 104 from z.2.2]; decide), (by rw [show mu_n Q9 161 = 248 from (u9.1.1.a (p := 161) (x := (104, 248)) rfl).2]; exact vp_in_nI (n := sc) (by omega) (by decide))⟩) ?_
          rw [show (mu_r Q9 161 (nI sc).toNatClampNeg) = (some q0) from (congrArg (mu_r Q9 161) (show (nI sc).toNatClampNeg = sc from nI_clamp (by omega))).trans ka11]
          refine mw_go mu_g349 (k := 1) (f1 := (110, [(2, .inl (nI k)), (0, .inr (.inr (some 158))), (1, .inl (nI b))], [], (mu_sr Q9 158 22 (some q0)))) (C := [mu_is Q9 (some 158) 8]) rfl (show mu_is Q9 (some 158) 8 from (u9.1.1.is rfl)) ?_
          obtain ⟨u12, r12, d12⟩ : um m (mu_sr Q9 158 22 (some q0)) ∧ ur m C Q9 (mu_sr Q9 158 22 (some q0)) ∧ ud m (mu_sr Q9 158 22 (some q0)) = (upR (upT (upI (upR (upC W 161 sc 256) 161 sc (some q0)) 158 4 (nI (sc + 1))) (ax 26 (upI (upR (upC W 161 sc 256) 161 sc (some q0)) 158 4 (nI (sc + 1))).1 (nI k) 1 (nI sc))) 158 22 (some q0)) := (by have z := u9.putR (C := C) (P := 158) (k := 22) (v := (some q0)) rfl rfl rfl (by decide) (fun q hq => by cases hq; exact LSN.cd d9 (show LSN (upT (upI (upR (upC W 161 sc 256) 161 sc (some q0)) 158 4 (nI (sc + 1))) (ax 26 (upI (upR (upC W 161 sc 256) 161 sc (some q0)) 158 4 (nI (sc + 1))).1 (nI k) 1 (nI sc))) 161 sc q0 256 from hset)); rw [d9] at z; exact z)
          generalize (mu_sr Q9 158 22 (some q0)) = Q12 at u12 r12 d12 ⊢
          have ht12 : ur m C H Q12 := ht9.trans r12
          refine mw_go mu_g349 (k := 1) (f1 := (111, [(2, .inl (nI k)), (0, .inr (.inr (some 158))), (1, .inl (nI b))], [.inl (1 : Int32)], Q12)) (C := []) rfl trivial ?_
          exact mw_of (fun _ => mu_ret rfl (Or.inr rfl) ⟨(1 : Int32), Q12, rfl, Or.inr ⟨rfl, u12, ht12, k, n, q0, W, (upR (upC W 161 sc 256) 161 sc (some q0)), ⟨by omega, by omega⟩, hjk, hno, hen, z7, hKL, Or.inr ⟨hnone, rfl⟩, hset, d12⟩⟩)
        · -- new set: s
          refine mw_cI (fun _ => rfl) (show mu_is Q7 (some 158) 8 from (u7.1.1.is rfl)) (pr_newSets (d := (d + 3)) (C := C) u7 d7 hscW hscb hset) (fun x13 Q13 q13 => ?_)
          obtain ⟨rfl, u13, r13, d13⟩ := q13
          have ht13 : ur m C H Q13 := ht7.trans r13
          refine mw_cV (fun _ => rfl) (show mu_is Q13 (some 159) 10 from (u13.1.1.is rfl)) (u13.setr (C := C) (d := (d + 4)) d13 (j := 26) (Or.inr ⟨by decide, by decide⟩) rfl (nI k) (nI sc) (c := 1) (by decide)) (fun Q14 q14 => ?_)
          obtain ⟨u14, r14, d14⟩ := q14
          have ht14 : ur m C H Q14 := ht13.trans r14
          refine mw_go mu_g349 (k := 3) (f1 := (97, [(2, .inl (nI k)), (0, .inr (.inr (some 158))), (1, .inl (nI b))], [.inr (.inr (mu_r Q14 158 3)), .inr (.inr (some 158))], Q14)) (C := [mu_is Q14 (some 158) 8]) rfl (show mu_is Q14 (some 158) 8 from (u14.1.1.is rfl)) ?_
          rw [(u14.1.1.r (p := 158) (j := 3) (q := 161) rfl)]
          refine mw_go mu_g349 (k := 2) (f1 := (101, [(2, .inl (nI k)), (0, .inr (.inr (some 158))), (1, .inl (nI b))], [.inr (.inr (mu_r Q14 158 2)), .inr (.inr (some 161)), .inr (.inr (some 158))], Q14)) (C := [mu_is Q14 (some 158) 8]) rfl (show mu_is Q14 (some 158) 8 from (u14.1.1.is rfl)) ?_
          rw [(u14.1.1.r (p := 158) (j := 2) (q := 159) rfl)]
          refine mw_go mu_g349 (k := 2) (f1 := (103, [(2, .inl (nI k)), (0, .inr (.inr (some 158))), (1, .inl (nI b))], [.inl (1 : Int32), .inl (nI k), .inr (.inr (some 159)), .inr (.inr (some 161)), .inr (.inr (some 158))], Q14)) (C := []) rfl trivial ?_
          refine mw_cIe (fun _ => rfl) (show mu_is Q14 (some 159) 10 from (u14.1.1.is rfl)) (u14.getr (d := (d + 4)) d14 (j := 26) (by decide) rfl (nI k) (c := 1) (by decide)) ?_
          rw [show (tget ((upT (upI W 158 4 (nI (sc + 1))) (ax 26 (upI W 158 4 (nI (sc + 1))).1 (nI k) 1 (nI sc))).1 26) (nI k) 1) = (nI sc) from ((congrArg (fun z => tget z (nI k) 1) (show (upT (upI W 158 4 (nI (sc + 1))) (ax 26 (upI W 158 4 (nI (sc + 1))).1 (nI k) 1 (nI sc))).1 26 = ((upT (upI W 158 4 (nI (sc + 1))) (ax 26 (upI W 158 4 (nI (sc + 1))).1 (nI k) 1 (nI sc))).1 26) from rfl)).trans (tget_nI (by first | omega | decide))).trans (ax_hit (by show k < (W.1 26).1; rw [hzW]; omega) (by decide) (by omega))]
          have ka16 : mu_r Q14 161 sc = some q0 := (dR_pool d14 (Or.inl rfl) (plp161 (show sc < 248 by omega))).trans (LSN.ref (show LSN (upT (upI W 158 4 (nI (sc + 1))) (ax 26 (upI W 158 4 (nI (sc + 1))).1 (nI k) 1 (nI sc))) 161 sc q0 _ from (show LSN _ 161 sc q0 256 from hset)) (Or.inl rfl))
          refine mw_go mu_g349 (k := 1) (f1 := (107, [(2, .inl (nI k)), (0, .inr (.inr (some 158))), (1, .inl (nI b))], [.inr (.inr (mu_r Q14 161 (nI sc).toNatClampNeg)), .inr (.inr (some 158))], Q14)) (C := [mu_is Q14 (some 161) (mu_k Q14 161), 103 ≤ mu_k Q14 161 ∧ mu_k Q14 161 ≤ 110 ∧ mu_k Q14 161 ≠ 108, vp_in (nI sc) (mu_n Q14 161)]) rfl (show (mu_is Q14 (some 161) (mu_k Q14 161)) ∧ (103 ≤ mu_k Q14 161 ∧ mu_k Q14 161 ≤ 110 ∧ mu_k Q14 161 ≠ 108) ∧ (vp_in (nI sc) (mu_n Q14 161)) from ⟨(by have z := (u14.1.1.a (p := 161) (x := (104, 248)) rfl).1; rw [show mu_k Q14 161 = 104 from z.2.2]; exact z), (by have z := (u14.1.1.a (p := 161) (x := (104, 248)) rfl).1; rw [show mu_k Q14 161 = 104 from z.2.2]; decide), (by rw [show mu_n Q14 161 = 248 from (u14.1.1.a (p := 161) (x := (104, 248)) rfl).2]; exact vp_in_nI (n := sc) (by omega) (by decide))⟩) ?_
          rw [show (mu_r Q14 161 (nI sc).toNatClampNeg) = (some q0) from (congrArg (mu_r Q14 161) (show (nI sc).toNatClampNeg = sc from nI_clamp (by omega))).trans ka16]
          refine mw_go mu_g349 (k := 1) (f1 := (110, [(2, .inl (nI k)), (0, .inr (.inr (some 158))), (1, .inl (nI b))], [], (mu_sr Q14 158 22 (some q0)))) (C := [mu_is Q14 (some 158) 8]) rfl (show mu_is Q14 (some 158) 8 from (u14.1.1.is rfl)) ?_
          obtain ⟨u17, r17, d17⟩ : um m (mu_sr Q14 158 22 (some q0)) ∧ ur m C Q14 (mu_sr Q14 158 22 (some q0)) ∧ ud m (mu_sr Q14 158 22 (some q0)) = (upR (upT (upI W 158 4 (nI (sc + 1))) (ax 26 (upI W 158 4 (nI (sc + 1))).1 (nI k) 1 (nI sc))) 158 22 (some q0)) := (by have z := u14.putR (C := C) (P := 158) (k := 22) (v := (some q0)) rfl rfl rfl (by decide) (fun q hq => by cases hq; exact LSN.cd d14 (show LSN (upT (upI W 158 4 (nI (sc + 1))) (ax 26 (upI W 158 4 (nI (sc + 1))).1 (nI k) 1 (nI sc))) 161 sc q0 256 from hset)); rw [d14] at z; exact z)
          generalize (mu_sr Q14 158 22 (some q0)) = Q17 at u17 r17 d17 ⊢
          have ht17 : ur m C H Q17 := ht14.trans r17
          refine mw_go mu_g349 (k := 1) (f1 := (111, [(2, .inl (nI k)), (0, .inr (.inr (some 158))), (1, .inl (nI b))], [.inl (1 : Int32)], Q17)) (C := []) rfl trivial ?_
          exact mw_of (fun _ => mu_ret rfl (Or.inr rfl) ⟨(1 : Int32), Q17, rfl, Or.inr ⟨rfl, u17, ht17, k, n, q0, W, W, ⟨by omega, by omega⟩, hjk, hno, hen, z7, hKL, Or.inl rfl, hset, d17⟩⟩)
      · -- 68: not (nI (k + 1)) < (nI sz)
        have nh5 : ¬ (k + 1) < sz := fun z => h5 (show nI (k + 1) < nI sz from (nI_ltI (by omega) (by omega)).mpr z)
        refine mw_go mu_g349 (k := 2) (f1 := (72, [(2, .inl (nI k)), (0, .inr (.inr (some 158))), (1, .inl (nI b))], [.inl (mu_i H 158 16), .inl (nI (st k)), .inr (.inr (some 100))], H)) (C := [mu_is H (some 158) 8]) rfl (show mu_is H (some 158) 8 from (h.1.1.is rfl)) ?_
        rw [(show mu_i H 158 16 = (nI at0) from (ud_i (U := U) (m := m) (P := 158) (j := 16) e rfl).trans hat)]
        refine mw_go mu_g349 (k := 2) (f1 := (76, [(2, .inl (nI k)), (0, .inr (.inr (some 158))), (1, .inl (nI b))], [.inl (mu_i H 158 18), .inl (nI at0), .inl (nI (st k)), .inr (.inr (some 100))], H)) (C := [mu_is H (some 158) 8]) rfl (show mu_is H (some 158) 8 from (h.1.1.is rfl)) ?_
        rw [(show mu_i H 158 18 = (nI i0) from (ud_i (U := U) (m := m) (P := 158) (j := 18) e rfl).trans hwh)]
        rw [show (nI at0) = nI (st k + n) from congrArg nI (show at0 = st k + n by unfold pen at hen; first | (rw [if_pos (by omega)] at hen; omega) | (rw [if_neg (by omega)] at hen; omega))]
        refine mw_cV (fun _ => rfl) (show mu_is H (some 100) 5 from (h.1.1.is rfl)) (rl_loadP (d := d) (C := C) (a := st k) (n := n) (i := i0) h e hK hi0 hrg hC1 hC2) (fun Q18 q18 => ?_)
        obtain ⟨u18, r18, z18, hKL⟩ := q18
        have ht18 : ur m C H Q18 := (ur.refl m C H).trans r18
        obtain ⟨W, d18⟩ : ∃ V, ud m Q18 = V := ⟨_, rfl⟩
        rw [d18] at z18 hKL
        have hPW : PLS W := hPL.keepq z18 (fun _ => rfl) (fun _ => rfl) rfl
        have hzW : (W.1 26).1 = sz := by rw [z18.t 26 rfl]; exact hz
        have hscW : W.2.1 158 4 = nI sc := (z18.i 158 4 rfl).trans hsc
        refine mw_go mu_g349 (k := 2) (f1 := (83, [(2, .inl (nI k)), (0, .inr (.inr (some 158))), (1, .inl (nI b))], [.inr (.inr (mu_r Q18 158 2))], Q18)) (C := [mu_is Q18 (some 158) 8]) rfl (show mu_is Q18 (some 158) 8 from (u18.1.1.is rfl)) ?_
        rw [(u18.1.1.r (p := 158) (j := 2) (q := 159) rfl)]
        refine mw_go mu_g349 (k := 3) (f1 := (86, [(2, .inl (nI k)), (0, .inr (.inr (some 158))), (1, .inl (nI b))], [.inr (.inr (some 158)), .inl (1 : Int32), .inl (nI k), .inr (.inr (some 159))], Q18)) (C := []) rfl trivial ?_
        rcases hPW.1 sc (by omega) with hnone | ⟨q0, hset⟩
        · -- new set: n
          refine mw_cI (fun _ => rfl) (show mu_is Q18 (some 158) 8 from (u18.1.1.is rfl)) (pr_newSetn (d := (d + 3)) (C := C) u18 d18 hscW hscb hnone) (fun x19 Q19 q19 => ?_)
          obtain ⟨rfl, u19, r19, q0, d19⟩ := q19
          have hset : LSN (upR (upC W 161 sc 256) 161 sc (some q0)) 161 sc q0 256 := nw_lsn (Or.inl rfl) (plp161 (by omega))
          have ht19 : ur m C H Q19 := ht18.trans r19
          refine mw_cV (fun _ => rfl) (show mu_is Q19 (some 159) 10 from (u19.1.1.is rfl)) (u19.setr (C := C) (d := (d + 4)) d19 (j := 26) (Or.inr ⟨by decide, by decide⟩) rfl (nI k) (nI sc) (c := 1) (by decide)) (fun Q20 q20 => ?_)
          obtain ⟨u20, r20, d20⟩ := q20
          have ht20 : ur m C H Q20 := ht19.trans r20
          refine mw_go mu_g349 (k := 3) (f1 := (97, [(2, .inl (nI k)), (0, .inr (.inr (some 158))), (1, .inl (nI b))], [.inr (.inr (mu_r Q20 158 3)), .inr (.inr (some 158))], Q20)) (C := [mu_is Q20 (some 158) 8]) rfl (show mu_is Q20 (some 158) 8 from (u20.1.1.is rfl)) ?_
          rw [(u20.1.1.r (p := 158) (j := 3) (q := 161) rfl)]
          refine mw_go mu_g349 (k := 2) (f1 := (101, [(2, .inl (nI k)), (0, .inr (.inr (some 158))), (1, .inl (nI b))], [.inr (.inr (mu_r Q20 158 2)), .inr (.inr (some 161)), .inr (.inr (some 158))], Q20)) (C := [mu_is Q20 (some 158) 8]) rfl (show mu_is Q20 (some 158) 8 from (u20.1.1.is rfl)) ?_
          rw [(u20.1.1.r (p := 158) (j := 2) (q := 159) rfl)]
          refine mw_go mu_g349 (k := 2) (f1 := (103, [(2, .inl (nI k)), (0, .inr (.inr (some 158))), (1, .inl (nI b))], [.inl (1 : Int32), .inl (nI k), .inr (.inr (some 159)), .inr (.inr (some 161)), .inr (.inr (some 158))], Q20)) (C := []) rfl trivial ?_
          refine mw_cIe (fun _ => rfl) (show mu_is Q20 (some 159) 10 from (u20.1.1.is rfl)) (u20.getr (d := (d + 4)) d20 (j := 26) (by decide) rfl (nI k) (c := 1) (by decide)) ?_
          rw [show (tget ((upT (upI (upR (upC W 161 sc 256) 161 sc (some q0)) 158 4 (nI (sc + 1))) (ax 26 (upI (upR (upC W 161 sc 256) 161 sc (some q0)) 158 4 (nI (sc + 1))).1 (nI k) 1 (nI sc))).1 26) (nI k) 1) = (nI sc) from ((congrArg (fun z => tget z (nI k) 1) (show (upT (upI (upR (upC W 161 sc 256) 161 sc (some q0)) 158 4 (nI (sc + 1))) (ax 26 (upI (upR (upC W 161 sc 256) 161 sc (some q0)) 158 4 (nI (sc + 1))).1 (nI k) 1 (nI sc))).1 26 = ((upT (upI (upR (upC W 161 sc 256) 161 sc (some q0)) 158 4 (nI (sc + 1))) (ax 26 (upI (upR (upC W 161 sc 256) 161 sc (some q0)) 158 4 (nI (sc + 1))).1 (nI k) 1 (nI sc))).1 26) from rfl)).trans (tget_nI (by first | omega | decide))).trans (ax_hit (by show k < (W.1 26).1; rw [hzW]; omega) (by decide) (by omega))]
          have ka22 : mu_r Q20 161 sc = some q0 := (dR_pool d20 (Or.inl rfl) (plp161 (show sc < 248 by omega))).trans (LSN.ref (show LSN (upT (upI (upR (upC W 161 sc 256) 161 sc (some q0)) 158 4 (nI (sc + 1))) (ax 26 (upI (upR (upC W 161 sc 256) 161 sc (some q0)) 158 4 (nI (sc + 1))).1 (nI k) 1 (nI sc))) 161 sc q0 _ from (show LSN _ 161 sc q0 256 from hset)) (Or.inl rfl))
          refine mw_go mu_g349 (k := 1) (f1 := (107, [(2, .inl (nI k)), (0, .inr (.inr (some 158))), (1, .inl (nI b))], [.inr (.inr (mu_r Q20 161 (nI sc).toNatClampNeg)), .inr (.inr (some 158))], Q20)) (C := [mu_is Q20 (some 161) (mu_k Q20 161), 103 ≤ mu_k Q20 161 ∧ mu_k Q20 161 ≤ 110 ∧ mu_k Q20 161 ≠ 108, vp_in (nI sc) (mu_n Q20 161)]) rfl (show (mu_is Q20 (some 161) (mu_k Q20 161)) ∧ (103 ≤ mu_k Q20 161 ∧ mu_k Q20 161 ≤ 110 ∧ mu_k Q20 161 ≠ 108) ∧ (vp_in (nI sc) (mu_n Q20 161)) from ⟨(by have z := (u20.1.1.a (p := 161) (x := (104, 248)) rfl).1; rw [show mu_k Q20 161 = 104 from z.2.2]; exact z), (by have z := (u20.1.1.a (p := 161) (x := (104, 248)) rfl).1; rw [show mu_k Q20 161 = 104 from z.2.2]; decide), (by rw [show mu_n Q20 161 = 248 from (u20.1.1.a (p := 161) (x := (104, 248)) rfl).2]; exact vp_in_nI (n := sc) (by omega) (by decide))⟩) ?_
          rw [show (mu_r Q20 161 (nI sc).toNatClampNeg) = (some q0) from (congrArg (mu_r Q20 161) (show (nI sc).toNatClampNeg = sc from nI_clamp (by omega))).trans ka22]
          refine mw_go mu_g349 (k := 1) (f1 := (110, [(2, .inl (nI k)), (0, .inr (.inr (some 158))), (1, .inl (nI b))], [], (mu_sr Q20 158 22 (some q0)))) (C := [mu_is Q20 (some 158) 8]) rfl (show mu_is Q20 (some 158) 8 from (u20.1.1.is rfl)) ?_
          obtain ⟨u23, r23, d23⟩ : um m (mu_sr Q20 158 22 (some q0)) ∧ ur m C Q20 (mu_sr Q20 158 22 (some q0)) ∧ ud m (mu_sr Q20 158 22 (some q0)) = (upR (upT (upI (upR (upC W 161 sc 256) 161 sc (some q0)) 158 4 (nI (sc + 1))) (ax 26 (upI (upR (upC W 161 sc 256) 161 sc (some q0)) 158 4 (nI (sc + 1))).1 (nI k) 1 (nI sc))) 158 22 (some q0)) := (by have z := u20.putR (C := C) (P := 158) (k := 22) (v := (some q0)) rfl rfl rfl (by decide) (fun q hq => by cases hq; exact LSN.cd d20 (show LSN (upT (upI (upR (upC W 161 sc 256) 161 sc (some q0)) 158 4 (nI (sc + 1))) (ax 26 (upI (upR (upC W 161 sc 256) 161 sc (some q0)) 158 4 (nI (sc + 1))).1 (nI k) 1 (nI sc))) 161 sc q0 256 from hset)); rw [d20] at z; exact z)
          generalize (mu_sr Q20 158 22 (some q0)) = Q23 at u23 r23 d23 ⊢
          have ht23 : ur m C H Q23 := ht20.trans r23
          refine mw_go mu_g349 (k := 1) (f1 := (111, [(2, .inl (nI k)), (0, .inr (.inr (some 158))), (1, .inl (nI b))], [.inl (1 : Int32)], Q23)) (C := []) rfl trivial ?_
          exact mw_of (fun _ => mu_ret rfl (Or.inr rfl) ⟨(1 : Int32), Q23, rfl, Or.inr ⟨rfl, u23, ht23, k, n, q0, W, (upR (upC W 161 sc 256) 161 sc (some q0)), ⟨by omega, by omega⟩, hjk, hno, hen, z18, hKL, Or.inr ⟨hnone, rfl⟩, hset, d23⟩⟩)
        · -- new set: s
          refine mw_cI (fun _ => rfl) (show mu_is Q18 (some 158) 8 from (u18.1.1.is rfl)) (pr_newSets (d := (d + 3)) (C := C) u18 d18 hscW hscb hset) (fun x24 Q24 q24 => ?_)
          obtain ⟨rfl, u24, r24, d24⟩ := q24
          have ht24 : ur m C H Q24 := ht18.trans r24
          refine mw_cV (fun _ => rfl) (show mu_is Q24 (some 159) 10 from (u24.1.1.is rfl)) (u24.setr (C := C) (d := (d + 4)) d24 (j := 26) (Or.inr ⟨by decide, by decide⟩) rfl (nI k) (nI sc) (c := 1) (by decide)) (fun Q25 q25 => ?_)
          obtain ⟨u25, r25, d25⟩ := q25
          have ht25 : ur m C H Q25 := ht24.trans r25
          refine mw_go mu_g349 (k := 3) (f1 := (97, [(2, .inl (nI k)), (0, .inr (.inr (some 158))), (1, .inl (nI b))], [.inr (.inr (mu_r Q25 158 3)), .inr (.inr (some 158))], Q25)) (C := [mu_is Q25 (some 158) 8]) rfl (show mu_is Q25 (some 158) 8 from (u25.1.1.is rfl)) ?_
          rw [(u25.1.1.r (p := 158) (j := 3) (q := 161) rfl)]
          refine mw_go mu_g349 (k := 2) (f1 := (101, [(2, .inl (nI k)), (0, .inr (.inr (some 158))), (1, .inl (nI b))], [.inr (.inr (mu_r Q25 158 2)), .inr (.inr (some 161)), .inr (.inr (some 158))], Q25)) (C := [mu_is Q25 (some 158) 8]) rfl (show mu_is Q25 (some 158) 8 from (u25.1.1.is rfl)) ?_
          rw [(u25.1.1.r (p := 158) (j := 2) (q := 159) rfl)]
          refine mw_go mu_g349 (k := 2) (f1 := (103, [(2, .inl (nI k)), (0, .inr (.inr (some 158))), (1, .inl (nI b))], [.inl (1 : Int32), .inl (nI k), .inr (.inr (some 159)), .inr (.inr (some 161)), .inr (.inr (some 158))], Q25)) (C := []) rfl trivial ?_
          refine mw_cIe (fun _ => rfl) (show mu_is Q25 (some 159) 10 from (u25.1.1.is rfl)) (u25.getr (d := (d + 4)) d25 (j := 26) (by decide) rfl (nI k) (c := 1) (by decide)) ?_
          rw [show (tget ((upT (upI W 158 4 (nI (sc + 1))) (ax 26 (upI W 158 4 (nI (sc + 1))).1 (nI k) 1 (nI sc))).1 26) (nI k) 1) = (nI sc) from ((congrArg (fun z => tget z (nI k) 1) (show (upT (upI W 158 4 (nI (sc + 1))) (ax 26 (upI W 158 4 (nI (sc + 1))).1 (nI k) 1 (nI sc))).1 26 = ((upT (upI W 158 4 (nI (sc + 1))) (ax 26 (upI W 158 4 (nI (sc + 1))).1 (nI k) 1 (nI sc))).1 26) from rfl)).trans (tget_nI (by first | omega | decide))).trans (ax_hit (by show k < (W.1 26).1; rw [hzW]; omega) (by decide) (by omega))]
          have ka27 : mu_r Q25 161 sc = some q0 := (dR_pool d25 (Or.inl rfl) (plp161 (show sc < 248 by omega))).trans (LSN.ref (show LSN (upT (upI W 158 4 (nI (sc + 1))) (ax 26 (upI W 158 4 (nI (sc + 1))).1 (nI k) 1 (nI sc))) 161 sc q0 _ from (show LSN _ 161 sc q0 256 from hset)) (Or.inl rfl))
          refine mw_go mu_g349 (k := 1) (f1 := (107, [(2, .inl (nI k)), (0, .inr (.inr (some 158))), (1, .inl (nI b))], [.inr (.inr (mu_r Q25 161 (nI sc).toNatClampNeg)), .inr (.inr (some 158))], Q25)) (C := [mu_is Q25 (some 161) (mu_k Q25 161), 103 ≤ mu_k Q25 161 ∧ mu_k Q25 161 ≤ 110 ∧ mu_k Q25 161 ≠ 108, vp_in (nI sc) (mu_n Q25 161)]) rfl (show (mu_is Q25 (some 161) (mu_k Q25 161)) ∧ (103 ≤ mu_k Q25 161 ∧ mu_k Q25 161 ≤ 110 ∧ mu_k Q25 161 ≠ 108) ∧ (vp_in (nI sc) (mu_n Q25 161)) from ⟨(by have z := (u25.1.1.a (p := 161) (x := (104, 248)) rfl).1; rw [show mu_k Q25 161 = 104 from z.2.2]; exact z), (by have z := (u25.1.1.a (p := 161) (x := (104, 248)) rfl).1; rw [show mu_k Q25 161 = 104 from z.2.2]; decide), (by rw [show mu_n Q25 161 = 248 from (u25.1.1.a (p := 161) (x := (104, 248)) rfl).2]; exact vp_in_nI (n := sc) (by omega) (by decide))⟩) ?_
          rw [show (mu_r Q25 161 (nI sc).toNatClampNeg) = (some q0) from (congrArg (mu_r Q25 161) (show (nI sc).toNatClampNeg = sc from nI_clamp (by omega))).trans ka27]
          refine mw_go mu_g349 (k := 1) (f1 := (110, [(2, .inl (nI k)), (0, .inr (.inr (some 158))), (1, .inl (nI b))], [], (mu_sr Q25 158 22 (some q0)))) (C := [mu_is Q25 (some 158) 8]) rfl (show mu_is Q25 (some 158) 8 from (u25.1.1.is rfl)) ?_
          obtain ⟨u28, r28, d28⟩ : um m (mu_sr Q25 158 22 (some q0)) ∧ ur m C Q25 (mu_sr Q25 158 22 (some q0)) ∧ ud m (mu_sr Q25 158 22 (some q0)) = (upR (upT (upI W 158 4 (nI (sc + 1))) (ax 26 (upI W 158 4 (nI (sc + 1))).1 (nI k) 1 (nI sc))) 158 22 (some q0)) := (by have z := u25.putR (C := C) (P := 158) (k := 22) (v := (some q0)) rfl rfl rfl (by decide) (fun q hq => by cases hq; exact LSN.cd d25 (show LSN (upT (upI W 158 4 (nI (sc + 1))) (ax 26 (upI W 158 4 (nI (sc + 1))).1 (nI k) 1 (nI sc))) 161 sc q0 256 from hset)); rw [d25] at z; exact z)
          generalize (mu_sr Q25 158 22 (some q0)) = Q28 at u28 r28 d28 ⊢
          have ht28 : ur m C H Q28 := ht25.trans r28
          refine mw_go mu_g349 (k := 1) (f1 := (111, [(2, .inl (nI k)), (0, .inr (.inr (some 158))), (1, .inl (nI b))], [.inl (1 : Int32)], Q28)) (C := []) rfl trivial ?_
          exact mw_of (fun _ => mu_ret rfl (Or.inr rfl) ⟨(1 : Int32), Q28, rfl, Or.inr ⟨rfl, u28, ht28, k, n, q0, W, W, ⟨by omega, by omega⟩, hjk, hno, hen, z18, hKL, Or.inl rfl, hset, d28⟩⟩)
    · -- 112: not (sI (js k)) < 0
      refine mw_go mu_g349 (k := 1) (f1 := (115, [(2, .inl ((nI k) + 1)), (0, .inr (.inr (some 158))), (1, .inl (nI b))], [], H)) (C := []) rfl trivial ?_
      rw [(show ((nI k) + 1) = (nI (k + 1)) from (nI_add k 1))]
      refine mw_go mu_g349 (k := 1) (f1 := (2, [(2, .inl (nI (k + 1))), (0, .inr (.inr (some 158))), (1, .inl (nI b))], [], H)) (C := []) rfl trivial ?_
      exact mw_sub (by simp) (iha (k + 1) ⟨(show b ≤ (k + 1) ∧ (k + 1) ≤ sz from (by omega)), (show ∀ i, b ≤ i → i < (k + 1) → ¬ js i = none from (fun i i1 i2 => by by_cases y : i = k; (rw [y]; exact fun w => h3 ((sI_neg (hjb k (by omega))).mpr w)); (exact hno i i1 (by omega))))⟩ (by show sz + 1 - (k + 1) < sz + 1 - k; omega))
  · -- 118: not (nI k) < (nI sz)
    have nh1 : ¬ k < sz := fun z => h1 (show nI k < nI sz from (nI_ltI (by omega) (by omega)).mpr z)
    refine mw_go mu_g349 (k := 1) (f1 := (119, [(2, .inl (nI k)), (0, .inr (.inr (some 158))), (1, .inl (nI b))], [.inl (0 : Int32)], H)) (C := []) rfl trivial ?_
    exact mw_of (fun _ => mu_ret rfl (Or.inl rfl) ⟨(0 : Int32), H, rfl, Or.inl ⟨rfl, fun i i1 i2 => hno i i1 (by omega), rfl⟩⟩)
end FindPart
