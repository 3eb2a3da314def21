/-! GRAPH: open (without a goal) -/
/-- what is unseen in the row that is laid out -/
def BNW (U : Ud) (T s : Nat) : Bool := decide (s < T) && (bts (U.2.2.2.2.1 146) s && bts (U.2.2.2.2.1 150) s)
section OpenRow
variable {H : mu_H} {U V : Ud} {m d wn k tl c T R bf bt pg w n t : Nat} {C : Nat → Nat} {rx qu ix ls : Nat → Nat} {lf : Int64}
theorem bnw_q (hT : ∀ s, s < 16384 → bts (U.2.2.2.2.1 146) s = true → s < T) (hwt : w < 256) (q : Nat) (hq : q < 64) : btz (U.2.2.2.2.1 146 w &&& U.2.2.2.2.1 150 w) q = BNW U T (64 * w + q) := by
  have e1 : bts (U.2.2.2.2.1 146) (64 * w + q) = btz (U.2.2.2.2.1 146 w) q := by
    unfold bts
    rw [show (64 * w + q) / 64 = w by omega, show (64 * w + q) % 64 = q by omega]
  have e2 : bts (U.2.2.2.2.1 150) (64 * w + q) = btz (U.2.2.2.2.1 150 w) q := by
    unfold bts
    rw [show (64 * w + q) / 64 = w by omega, show (64 * w + q) % 64 = q by omega]
  unfold BNW
  rw [btz_and, ← e1, ← e2]
  cases hb : bts (U.2.2.2.2.1 146) (64 * w + q)
  · rw [Bool.false_and, Bool.and_false]
  · rw [decide_eq_true (hT _ (by omega) hb), Bool.true_and, Bool.true_and]
theorem bnw_T {s : Nat} (h : BNW U T s = true) : s < T := by
  unfold BNW at h
  rw [Bool.and_eq_true, decide_eq_true_iff] at h
  exact h.1
theorem bnw_is {s : Nat} (h : BNW U T s = true) : bts (U.2.2.2.2.1 146) s = true ∧ bts (U.2.2.2.2.1 150) s = true := by
  unfold BNW at h
  rw [Bool.and_eq_true, Bool.and_eq_true] at h
  exact h.2
/-- what is queued: old ones, and the first of what is new -/
def QNW (V U : Ud) (tl T st : Nat) (n : Nat) (ls : Nat → Nat) : Prop := V.2.1 147 18 = nI (tl + n) ∧ (∀ i, i < n → (V.2.2.1 147 12).2 (tl + i) = nI (ls i)) ∧ (∀ i, i < tl → (V.2.2.1 147 12).2 i = (U.2.2.1 147 12).2 i) ∧ (∀ i, i < n → (V.2.2.1 147 13).2 (ls i) = nI st) ∧ ∀ j, (∀ i, i < n → ¬ ls i = j) → (V.2.2.1 147 13).2 j = (U.2.2.1 147 13).2 j
theorem que_room (hinj : ∀ i j, i < tl → j < tl → qu i = qu j → i = j) (hqT : ∀ i, i < tl → qu i < T) (hr : ∀ i j, i < j → j < n → ls i < ls j) (hl : ∀ i, i < n → ls i < T) (hne : ∀ i j, i < tl → j < n → ¬ qu i = ls j) : tl + n ≤ T := by
  refine pig_le T (tl + n) (fun i => if i < tl then qu i else ls (i - tl)) (fun i hi => ?_) (fun i j hi hj he => ?_)
  · show (if i < tl then qu i else ls (i - tl)) < T
    by_cases h : i < tl
    · rw [if_pos h]
      exact hqT i h
    · rw [if_neg h]
      exact hl _ (by omega)
  · have he : (if i < tl then qu i else ls (i - tl)) = (if j < tl then qu j else ls (j - tl)) := he
    by_cases h1 : i < tl <;> by_cases h2 : j < tl
    · rw [if_pos h1, if_pos h2] at he
      exact hinj i j h1 h2 he
    · rw [if_pos h1, if_neg h2] at he
      exact absurd he (hne i _ h1 (by omega))
    · rw [if_neg h1, if_pos h2] at he
      exact absurd he.symm (hne j _ h2 (by omega))
    · rw [if_neg h1, if_neg h2] at he
      rcases Nat.lt_or_ge (i - tl) (j - tl) with y | y
      · have := hr _ _ y (by omega)
        omega
      · rcases Nat.lt_or_ge (j - tl) (i - tl) with z | z
        · have := hr _ _ z (by omega)
          omega
        · omega
theorem in_in (h : inw ls n (BNW U T) w lf) : (∀ i j, i < j → j < n → ls i < ls j) ∧ ∀ i, i < n → BNW U T (ls i) = true := by
  obtain ⟨h1, h2, h3⟩ := h
  refine ⟨h1, fun i hi => ?_⟩
  rcases (h2 (ls i)).mp ⟨i, hi, rfl⟩ with y | y
  · exact y.2
  · exact y.2.2.1
def F323 : Uf := ⟨[], [(147, 14), (147, 15), (147, 16), (147, 17), (147, 18), (147, 19)], [(147, 10), (147, 12), (147, 13)], [], [149, 150], false⟩
theorem zero_and {x : Int64} : (0 : Int64) &&& x = 0 := by
  refine btz_ext (fun b hb => ?_)
  rw [btz_and, btz_0, Bool.false_and]
def F323a : Uf := ⟨[], [(147, 18)], [(147, 12), (147, 13)], [], [150], false⟩
def F323b : Uf := ⟨[], [(147, 18)], [(147, 12), (147, 13)], [], [], false⟩
/-- PathProver$Graph.open()V -/
abbrev mu_m323 : ev_M := (7, none, [], ev_b323)
theorem mu_g323 : mu_good mu_m323 := mu_goodk ev_k323
theorem gr_row0 (h : um m H) (e : ud m H = U) (hw12 : U.2.1 99 12 = nI wn) (hwb : wn ≤ 256) (hcur : U.2.1 147 16 = nI c) (hc : c ≤ wn) (hzc : ∀ i, i < c → U.2.2.2.2.1 150 i = 0) (hhead : U.2.1 147 17 = nI (k + 1)) (htail : U.2.1 147 18 = nI tl) (hht : k + 1 ≤ tl) (hq12 : T + 4 ≤ (U.2.2.1 147 12).1) (hq12b : (U.2.2.1 147 12).1 ≤ 16777216) (hq13 : T + 4 ≤ (U.2.2.1 147 13).1) (hq13b : (U.2.2.1 147 13).1 ≤ 16777216) (hqu : ∀ i, i < tl → (U.2.2.1 147 12).2 i = nI (qu i) ∧ qu i < T) (hinj : ∀ i j, i < tl → j < tl → qu i = qu j → i = j) (hnot : ∀ i, i < tl → ¬ bts (U.2.2.2.2.1 150) (qu i) = true) (hT146 : ∀ s, s < 16384 → bts (U.2.2.2.2.1 146) s = true → s < T) (hz : BZ U bf bt) (hTb : T ≤ 16384) (h6 : T ≤ (U.2.2.1 129 6).1) (h6b : (U.2.2.1 129 6).1 ≤ 16777216) (hrx : ∀ s, s < T → (U.2.2.1 129 6).2 s = nI (rx s) ∧ rx s < R) (hRl : 7 * R ≤ (U.2.2.1 147 10).1) (h10b : (U.2.2.1 147 10).1 ≤ 16777216) (hix : ∀ r, r < R → (U.2.2.1 147 10).2 (r * 7 + 1) = nI (ix r) ∧ ix r < 2147483648) (hgo : U.2.2.2.1 147 8 = none) : mu_TV (mu_D (d + 4)) 323 [.inr (.inr (some 147))] H (fun H1 => um m H1 ∧ ur m C H H1 ∧ uq F323 U (ud m H1) ∧ ∃ (X : Ud) (n : Nat) (ls : Nat → Nat), X.2.2.2.2.1 150 = (ud m H1).2.2.2.2.1 150 ∧ (X.2.1 147 18 = (ud m H1).2.1 147 18 ∧ X.2.2.1 147 12 = (ud m H1).2.2.1 147 12 ∧ X.2.2.1 147 13 = (ud m H1).2.2.1 147 13 ∧ X.2.2.1 147 10 = U.2.2.1 147 10) ∧ X.2.2.2.2.1 149 = U.2.2.2.2.1 149 ∧ QNW X U tl T (qu k) n ls ∧ tl + n ≤ T ∧ enw ls n (BNW U T) bt ∧ (∀ i, X.2.2.2.2.1 150 i = if bf ≤ i ∧ i < bt then U.2.2.2.2.1 150 i &&& ((U.2.2.2.2.1 146 i &&& U.2.2.2.2.1 150 i) ^^^ (-1 : Int64)) else U.2.2.2.2.1 150 i) ∧ ((ud m H1).2.1 147 14 = 0 ∧ (ud m H1).2.1 147 19 = -1) ∧ ∃ hh, (k + 1 ≤ hh ∧ hh ≤ tl + n) ∧ (ud m H1).2.1 147 17 = nI hh ∧ (∃ c, (ud m H1).2.1 147 16 = nI c ∧ c ≤ wn ∧ ∀ i, i < c → X.2.2.2.2.1 150 i = 0) ∧ OPW X (ud m H1) ix rx (fun i => if i < tl then qu i else ls (i - tl)) (k + 1) hh ∧ ((ud m H1).2.1 147 15 = -1 → hh = tl + n ∨ ∀ i, i < wn → X.2.2.2.2.1 150 i = 0) ∧ ((ud m H1).2.1 147 15 = -1 → ∀ s, s < 16384 → (bts ((ud m H1).2.2.2.2.1 149) s = true ↔ bts (X.2.2.2.2.1 149) s = true ∨ ∃ i, i < tl + n ∧ (fun i => if i < tl then qu i else ls (i - tl)) i = s)) ∧ (¬ (ud m H1).2.1 147 15 = -1 → (ud m H1).2.2.2.2.1 149 = X.2.2.2.2.1 149)) := by
  obtain ⟨⟨hz19, hz20, hzft, hz256⟩, hz0⟩ := id hz
  have htT : tl ≤ T := pig_le T tl qu (fun i hi => (hqu i hi).2) hinj
  refine mu_meth (M := mu_m323) rfl rfl ?_
  refine mw_ht (mu_fn_of (show [0].Nodup by decide)) ?_
  refine mw_go mu_g323 (k := 2) (f1 := (4, [(0, .inr (.inr (some 147)))], [.inr (.inr (mu_r H 147 12))], H)) (C := [mu_is H (some 147) 2]) rfl (show mu_is H (some 147) 2 from (h.1.1.is rfl)) ?_
  rw [(show mu_r H 147 12 = (U.2.2.2.1 147 12) from (ud_q (U := U) (m := m) (P := 147) (j := 12) e rfl))]
  refine mw_go mu_g323 (k := 2) (f1 := (8, [(0, .inr (.inr (some 147)))], [.inl (mu_i H 147 17), .inr (.inr (U.2.2.2.1 147 12))], H)) (C := [mu_is H (some 147) 2]) rfl (show mu_is H (some 147) 2 from (h.1.1.is rfl)) ?_
  rw [(show mu_i H 147 17 = (nI (k + 1)) from (ud_i (U := U) (m := m) (P := 147) (j := 17) e rfl).trans hhead)]
  refine mw_go mu_g323 (k := 2) (f1 := (10, [(0, .inr (.inr (some 147)))], [.inl ((nI (k + 1)) - (1 : Int32)), .inr (.inr (U.2.2.2.1 147 12))], H)) (C := []) rfl trivial ?_
  rw [(show ((nI (k + 1)) - (1 : Int32)) = (nI ((k + 1) - 1)) from (nI_sub (a := k + 1) (b := 1) (by omega)))]
  refine mw_go mu_g323 (k := 1) (f1 := (11, [(0, .inr (.inr (some 147)))], [.inl (mu_i H (mu_p (U.2.2.2.1 147 12)) (nI ((k + 1) - 1)).toNatClampNeg)], H)) (C := [mu_isr H (U.2.2.2.1 147 12) 100, vp_in (nI ((k + 1) - 1)) (mu_n H (mu_p (U.2.2.2.1 147 12)))]) rfl (show (mu_isr H (U.2.2.2.1 147 12) 100) ∧ (vp_in (nI ((k + 1) - 1)) (mu_n H (mu_p (U.2.2.2.1 147 12)))) from ⟨((h.iA e rfl rfl (show U.2.2.2.1 147 12 = (U.2.2.2.1 147 12) from rfl))).r, (h.vA (i := (k + 1) - 1) e rfl rfl (show U.2.2.2.1 147 12 = (U.2.2.2.1 147 12) from rfl) (show (U.2.2.1 147 12).1 = (U.2.2.1 147 12).1 from rfl) (by omega) (by omega))⟩) ?_
  rw [(show (mu_i H (mu_p (U.2.2.2.1 147 12)) (nI ((k + 1) - 1)).toNatClampNeg) = (nI (qu k)) from ((congrArg (mu_i H (mu_p (U.2.2.2.1 147 12))) (show (nI ((k + 1) - 1)).toNatClampNeg = (k + 1) - 1 from nI_clamp (by omega))).trans (h.gA e rfl rfl (show U.2.2.2.1 147 12 = (U.2.2.2.1 147 12) from rfl))).trans ((congrArg (fun z => z.2 ((k + 1) - 1)) (show U.2.2.1 147 12 = (U.2.2.1 147 12) from rfl)).trans (hqu k (by omega)).1))]
  refine mw_go mu_g323 (k := 3) (f1 := (16, [(1, .inl (nI (qu k))), (0, .inr (.inr (some 147)))], [.inr (.inr (mu_r H 147 1))], H)) (C := [mu_is H (some 147) 2]) rfl (show mu_is H (some 147) 2 from (h.1.1.is rfl)) ?_
  rw [(h.1.1.r (p := 147) (j := 1) (q := 129) rfl)]
  refine mw_go mu_g323 (k := 1) (f1 := (19, [(1, .inl (nI (qu k))), (0, .inr (.inr (some 147)))], [.inl (mu_i H 129 19)], H)) (C := [mu_is H (some 129) 9]) rfl (show mu_is H (some 129) 9 from (h.1.1.is rfl)) ?_
  rw [(show mu_i H 129 19 = (nI bf) from (ud_i (U := U) (m := m) (P := 129) (j := 19) e rfl).trans hz19)]
  refine mw_go mu_g323 (k := 1) (f1 := (20, [(2, .inl (nI bf)), (1, .inl (nI (qu k))), (0, .inr (.inr (some 147)))], [], H)) (C := []) rfl trivial ?_
  refine mw_sub (L' := [(2, .inl (nI bf)), (0, .inr (.inr (some 147))), (1, .inl (nI (qu k)))]) (by simp) ?_
  refine mw_down (α := Nat × mu_H) (fun zs => (20, [(2, .inl (nI zs.1)), (0, .inr (.inr (some 147))), (1, .inl (nI (qu k)))], [], zs.2)) (fun zs => bt - zs.1) (fun zs => um m zs.2 ∧ ur m C H zs.2 ∧ (uq F323a U (ud m zs.2)) ∧ (bf ≤ zs.1 ∧ zs.1 ≤ bt) ∧ (∀ i, (ud m zs.2).2.2.2.2.1 150 i = if bf ≤ i ∧ i < zs.1 then U.2.2.2.2.1 150 i &&& ((U.2.2.2.2.1 146 i &&& U.2.2.2.2.1 150 i) ^^^ (-1 : Int64)) else U.2.2.2.2.1 150 i) ∧ (∃ (n : Nat) (ls : Nat → Nat), QNW (ud m zs.2) U tl T (qu k) n ls ∧ enw ls n (BNW U T) zs.1)) (fun zs hza iha => ?_) (bf, H) ⟨h, (ur.refl m C H), (show uq F323a U (ud m H) from by rw [e]; exact uq.refl _ _), (show bf ≤ bf ∧ bf ≤ bt from ⟨Nat.le_refl _, hz.1.2.2.1⟩), (show ∀ i, (ud m H).2.2.2.2.1 150 i = if bf ≤ i ∧ i < bf then U.2.2.2.2.1 150 i &&& ((U.2.2.2.2.1 146 i &&& U.2.2.2.2.1 150 i) ^^^ (-1 : Int64)) else U.2.2.2.2.1 150 i from by rw [e]; exact (fun i => by rw [if_neg (by omega)])), (show ∃ (n : Nat) (ls : Nat → Nat), QNW (ud m H) U tl T (qu k) n ls ∧ enw ls n (BNW U T) bf from by rw [e]; exact ⟨0, fun _ => 0, ⟨htail, fun i hi => absurd hi (Nat.not_lt_zero i), fun _ _ => rfl, fun i hi => absurd hi (Nat.not_lt_zero i), fun _ _ => rfl⟩, fun i j _ hj => absurd hj (Nat.not_lt_zero j), fun s => ⟨fun ⟨i, hi, _⟩ => absurd hi (Nat.not_lt_zero i), fun y => by have y2 := (bnw_is y.2).1; have y3 := hz.2 (s / 64) (by have := bnw_T y.2; omega) (by omega); unfold bts at y2; rw [y3, btz_0] at y2; cases y2⟩⟩)⟩
  obtain ⟨w, Hsa⟩ := zs
  obtain ⟨ua, hta, da, hw, hU, hL⟩ := hza
  have ua : um m Hsa := ua
  have hta : ur m C H Hsa := hta
  have zza : uq F323a U (ud m Hsa) := da
  have hw : bf ≤ w ∧ w ≤ bt := hw
  have hU : ∀ i, (ud m Hsa).2.2.2.2.1 150 i = if bf ≤ i ∧ i < w then U.2.2.2.2.1 150 i &&& ((U.2.2.2.2.1 146 i &&& U.2.2.2.2.1 150 i) ^^^ (-1 : Int64)) else U.2.2.2.2.1 150 i := hU
  have hL : ∃ (n : Nat) (ls : Nat → Nat), QNW (ud m Hsa) U tl T (qu k) n ls ∧ enw ls n (BNW U T) w := hL
  obtain ⟨Va, da⟩ : ∃ V, ud m Hsa = V := ⟨_, rfl⟩
  rw [da] at zza hU hL
  have qfa : uq F323 U Va := (uq.refl F323 U).tr zza rfl
  show mu_W _ _ (20, [(2, .inl (nI w)), (0, .inr (.inr (some 147))), (1, .inl (nI (qu k)))], [], Hsa) _
  obtain ⟨n0, ls0, hQ0, hen⟩ := hL
  refine mw_go mu_g323 (k := 3) (f1 := (25, [(2, .inl (nI w)), (0, .inr (.inr (some 147))), (1, .inl (nI (qu k)))], [.inr (.inr (mu_r Hsa 147 1)), .inl (nI w)], Hsa)) (C := [mu_is Hsa (some 147) 2]) rfl (show mu_is Hsa (some 147) 2 from (ua.1.1.is rfl)) ?_
  rw [(ua.1.1.r (p := 147) (j := 1) (q := 129) rfl)]
  refine mw_go mu_g323 (k := 1) (f1 := (28, [(2, .inl (nI w)), (0, .inr (.inr (some 147))), (1, .inl (nI (qu k)))], [.inl (mu_i Hsa 129 20), .inl (nI w)], Hsa)) (C := [mu_is Hsa (some 129) 9]) rfl (show mu_is Hsa (some 129) 9 from (ua.1.1.is rfl)) ?_
  rw [(show mu_i Hsa 129 20 = (nI bt) from (ud_i (U := Va) (m := m) (P := 129) (j := 20) da rfl).trans ((zza.i 129 20 rfl).trans hz20))]
  refine mw_if (P := (nI w) < (nI bt)) (a := 31) (b := 172) (fun _ => rfl) trivial (fun h1 => ?_) (fun h1 => ?_)
  · -- 31: (nI w) < (nI bt)
    have nh1 : w < bt := (nI_ltI (by omega) (by omega)).mp (show nI w < nI bt from h1)
    refine mw_go mu_g323 (k := 2) (f1 := (35, [(2, .inl (nI w)), (0, .inr (.inr (some 147))), (1, .inl (nI (qu k)))], [.inr (.inr (mu_r Hsa 147 1))], Hsa)) (C := [mu_is Hsa (some 147) 2]) rfl (show mu_is Hsa (some 147) 2 from (ua.1.1.is rfl)) ?_
    rw [(ua.1.1.r (p := 147) (j := 1) (q := 129) rfl)]
    refine mw_go mu_g323 (k := 1) (f1 := (38, [(2, .inl (nI w)), (0, .inr (.inr (some 147))), (1, .inl (nI (qu k)))], [.inr (.inr (mu_r Hsa 129 18))], Hsa)) (C := [mu_is Hsa (some 129) 9]) rfl (show mu_is Hsa (some 129) 9 from (ua.1.1.is rfl)) ?_
    rw [(ua.1.1.r (p := 129) (j := 18) (q := 146) rfl)]
    refine mw_go mu_g323 (k := 2) (f1 := (40, [(2, .inl (nI w)), (0, .inr (.inr (some 147))), (1, .inl (nI (qu k)))], [.inr (.inl (mu_l Hsa 146 (nI w).toNatClampNeg))], Hsa)) (C := [mu_isr Hsa (some 146) 102, vp_in (nI w) (mu_n Hsa 146)]) rfl (show (mu_isr Hsa (some 146) 102) ∧ (vp_in (nI w) (mu_n Hsa 146)) from ⟨((ua.1.1.a (p := 146) (x := (102, 256)) rfl).1).r, (by rw [show mu_n Hsa 146 = 256 from (ua.1.1.a (p := 146) (x := (102, 256)) rfl).2]; exact vp_in_nI (n := w) (by omega) (by decide))⟩) ?_
    rw [(show (mu_l Hsa 146 (nI w).toNatClampNeg) = (U.2.2.2.2.1 146) w from (congrArg (mu_l Hsa 146) (show (nI w).toNatClampNeg = w from nI_clamp (by omega))).trans ((ud_l (m := m) (p := 146) (i := w) da rfl).trans (congrFun (show Va.2.2.2.2.1 146 = (U.2.2.2.2.1 146) from (zza.l 146 rfl)) w)))]
    refine mw_go mu_g323 (k := 2) (f1 := (44, [(2, .inl (nI w)), (0, .inr (.inr (some 147))), (1, .inl (nI (qu k)))], [.inr (.inr (mu_r Hsa 147 4)), .inr (.inl ((U.2.2.2.2.1 146) w))], Hsa)) (C := [mu_is Hsa (some 147) 2]) rfl (show mu_is Hsa (some 147) 2 from (ua.1.1.is rfl)) ?_
    rw [(ua.1.1.r (p := 147) (j := 4) (q := 150) rfl)]
    refine mw_go mu_g323 (k := 2) (f1 := (46, [(2, .inl (nI w)), (0, .inr (.inr (some 147))), (1, .inl (nI (qu k)))], [.inr (.inl (mu_l Hsa 150 (nI w).toNatClampNeg)), .inr (.inl ((U.2.2.2.2.1 146) w))], Hsa)) (C := [mu_isr Hsa (some 150) 102, vp_in (nI w) (mu_n Hsa 150)]) rfl (show (mu_isr Hsa (some 150) 102) ∧ (vp_in (nI w) (mu_n Hsa 150)) from ⟨((ua.1.1.a (p := 150) (x := (102, 256)) rfl).1).r, (by rw [show mu_n Hsa 150 = 256 from (ua.1.1.a (p := 150) (x := (102, 256)) rfl).2]; exact vp_in_nI (n := w) (by omega) (by decide))⟩) ?_
    rw [(show (mu_l Hsa 150 (nI w).toNatClampNeg) = (Va.2.2.2.2.1 150) w from (congrArg (mu_l Hsa 150) (show (nI w).toNatClampNeg = w from nI_clamp (by omega))).trans ((ud_l (m := m) (p := 150) (i := w) da rfl).trans (congrFun (show Va.2.2.2.2.1 150 = (Va.2.2.2.2.1 150) from rfl) w)))]
    refine mw_go mu_g323 (k := 1) (f1 := (47, [(2, .inl (nI w)), (0, .inr (.inr (some 147))), (1, .inl (nI (qu k)))], [.inr (.inl (((U.2.2.2.2.1 146) w) &&& ((Va.2.2.2.2.1 150) w)))], Hsa)) (C := []) rfl trivial ?_
    obtain ⟨lf0, hlf0⟩ : ∃ y, y = (((U.2.2.2.2.1 146) w) &&& ((Va.2.2.2.2.1 150) w)) := ⟨_, rfl⟩
    rw [← hlf0]
    have hu0 : Va.2.2.2.2.1 150 w = U.2.2.2.2.1 150 w := by rw [hU w, if_neg (by omega)]
    have hlq : ∀ q, q < 64 → btz lf0 q = BNW U T (64 * w + q) := fun q hq => by
      rw [hlf0, hu0]
      exact bnw_q hT146 (by omega) q hq
    refine mw_go mu_g323 (k := 3) (f1 := (52, [(3, .inr (.inl lf0)), (2, .inl (nI w)), (0, .inr (.inr (some 147))), (1, .inl (nI (qu k)))], [.inr (.inr (mu_r Hsa 147 4))], Hsa)) (C := [mu_is Hsa (some 147) 2]) rfl (show mu_is Hsa (some 147) 2 from (ua.1.1.is rfl)) ?_
    rw [(ua.1.1.r (p := 147) (j := 4) (q := 150) rfl)]
    refine mw_go mu_g323 (k := 3) (f1 := (55, [(3, .inr (.inl lf0)), (2, .inl (nI w)), (0, .inr (.inr (some 147))), (1, .inl (nI (qu k)))], [.inr (.inl (mu_l Hsa 150 (nI w).toNatClampNeg)), .inl (nI w), .inr (.inr (some 150))], Hsa)) (C := [mu_isr Hsa (some 150) 102, vp_in (nI w) (mu_n Hsa 150)]) rfl (show (mu_isr Hsa (some 150) 102) ∧ (vp_in (nI w) (mu_n Hsa 150)) from ⟨((ua.1.1.a (p := 150) (x := (102, 256)) rfl).1).r, (by rw [show mu_n Hsa 150 = 256 from (ua.1.1.a (p := 150) (x := (102, 256)) rfl).2]; exact vp_in_nI (n := w) (by omega) (by decide))⟩) ?_
    rw [(show (mu_l Hsa 150 (nI w).toNatClampNeg) = (Va.2.2.2.2.1 150) w from (congrArg (mu_l Hsa 150) (show (nI w).toNatClampNeg = w from nI_clamp (by omega))).trans ((ud_l (m := m) (p := 150) (i := w) da rfl).trans (congrFun (show Va.2.2.2.2.1 150 = (Va.2.2.2.2.1 150) from rfl) w)))]
    refine mw_go mu_g323 (k := 5) (f1 := (62, [(3, .inr (.inl lf0)), (2, .inl (nI w)), (0, .inr (.inr (some 147))), (1, .inl (nI (qu k)))], [], (mu_sl Hsa 150 (nI w).toNatClampNeg (((Va.2.2.2.2.1 150) w) &&& (lf0 ^^^ (-1 : Int64)))))) (C := [mu_is Hsa (some 150) 102, vp_in (nI w) (mu_n Hsa 150)]) rfl (show (mu_is Hsa (some 150) 102) ∧ (vp_in (nI w) (mu_n Hsa 150)) from ⟨((ua.1.1.a (p := 150) (x := (102, 256)) rfl).1), (by rw [show mu_n Hsa 150 = 256 from (ua.1.1.a (p := 150) (x := (102, 256)) rfl).2]; exact vp_in_nI (n := w) (by omega) (by decide))⟩) ?_
    rw [(show (nI w).toNatClampNeg = w from nI_clamp (by omega))]
    obtain ⟨u2, r2, d2⟩ : um m (mu_sl Hsa 150 w (((Va.2.2.2.2.1 150) w) &&& (lf0 ^^^ (-1 : Int64)))) ∧ ur m C Hsa (mu_sl Hsa 150 w (((Va.2.2.2.2.1 150) w) &&& (lf0 ^^^ (-1 : Int64)))) ∧ ud m (mu_sl Hsa 150 w (((Va.2.2.2.2.1 150) w) &&& (lf0 ^^^ (-1 : Int64)))) = (upL Va 150 w (((Va.2.2.2.2.1 150) w) &&& (lf0 ^^^ (-1 : Int64)))) := ua.sL (C := C) da rfl
    generalize (mu_sl Hsa 150 w (((Va.2.2.2.2.1 150) w) &&& (lf0 ^^^ (-1 : Int64)))) = Q2 at u2 r2 d2 ⊢
    have qf2 : uq F323 U (upL Va 150 w (((Va.2.2.2.2.1 150) w) &&& (lf0 ^^^ (-1 : Int64)))) := qfa.L rfl
    have ht2 : ur m C H Q2 := hta.trans r2
    refine mw_go mu_g323 (k := 3) (f1 := (65, [(3, .inr (.inl lf0)), (2, .inl (nI w)), (0, .inr (.inr (some 147))), (1, .inl (nI (qu k)))], [.inl (lg_cmp lf0 (0 : Int64))], Q2)) (C := []) rfl trivial ?_
    refine mw_if (P := (lg_cmp lf0 (0 : Int64)) = 0) (a := 68) (b := 72) (fun _ => rfl) trivial (fun h3 => ?_) (fun h3 => ?_)
    · -- 68: (lg_cmp lf0 (0 : Int64)) = 0
      refine mw_go mu_g323 (k := 2) (f1 := (76, [(3, .inr (.inl lf0)), (2, .inl (nI w)), (0, .inr (.inr (some 147))), (1, .inl (nI (qu k)))], [.inl (0 : Int32)], Q2)) (C := []) rfl trivial ?_
      have hc0 : (0 : Int32) = nI (cnz lf0 64) := by rw [show lf0 = 0 from lg_ne.mp h3, cnz_0 64 (fun i _ => btz_0)]; rfl
      refine mw_frU (congrArg (fun z => ((76, [(3, .inr (.inl lf0)), (2, .inl (nI w)), (0, .inr (.inr (some 147))), (1, .inl (nI (qu k)))], [.inl z], Q2) : mu_F)) hc0) ?_
      refine mw_go mu_g323 (k := 1) (f1 := (78, [(5, .inl (nI (cnz lf0 64))), (3, .inr (.inl lf0)), (2, .inl (nI w)), (0, .inr (.inr (some 147))), (1, .inl (nI (qu k)))], [], Q2)) (C := []) rfl trivial ?_
      refine mw_sub (L' := [(3, .inr (.inl lf0)), (5, .inl (nI (cnz lf0 64))), (0, .inr (.inr (some 147))), (1, .inl (nI (qu k))), (2, .inl (nI w))]) (by simp) ?_
      refine mw_down (α := Int64 × mu_H) (fun zs => (78, [(3, .inr (.inl zs.1)), (5, .inl (nI (cnz zs.1 64))), (0, .inr (.inr (some 147))), (1, .inl (nI (qu k))), (2, .inl (nI w))], [], zs.2)) (fun zs => cnz zs.1 64) (fun zs => um m zs.2 ∧ ur m C H zs.2 ∧ (uq F323b (upL Va 150 w (((Va.2.2.2.2.1 150) w) &&& (lf0 ^^^ (-1 : Int64)))) (ud m zs.2)) ∧ (∃ (n : Nat) (ls : Nat → Nat), QNW (ud m zs.2) U tl T (qu k) n ls ∧ inw ls n (BNW U T) w zs.1)) (fun zs hzb ihb => ?_) (lf0, Q2) ⟨u2, ht2, (show uq F323b (upL Va 150 w (((Va.2.2.2.2.1 150) w) &&& (lf0 ^^^ (-1 : Int64)))) (ud m Q2) from by rw [d2]; exact uq.refl _ _), (show ∃ (n : Nat) (ls : Nat → Nat), QNW (ud m Q2) U tl T (qu k) n ls ∧ inw ls n (BNW U T) w lf0 from by rw [d2]; exact ⟨n0, ls0, hQ0, in_start hen hlq⟩)⟩
      obtain ⟨lf, Hsb⟩ := zs
      obtain ⟨ub, htb, db, hI⟩ := hzb
      have ub : um m Hsb := ub
      have htb : ur m C H Hsb := htb
      have zzb : uq F323b (upL Va 150 w (((Va.2.2.2.2.1 150) w) &&& (lf0 ^^^ (-1 : Int64)))) (ud m Hsb) := db
      have hI : ∃ (n : Nat) (ls : Nat → Nat), QNW (ud m Hsb) U tl T (qu k) n ls ∧ inw ls n (BNW U T) w lf := hI
      obtain ⟨Vb, db⟩ : ∃ V, ud m Hsb = V := ⟨_, rfl⟩
      rw [db] at zzb hI
      have qfb : uq F323 U Vb := qf2.tr zzb rfl
      show mu_W _ _ (78, [(3, .inr (.inl lf)), (5, .inl (nI (cnz lf 64))), (0, .inr (.inr (some 147))), (1, .inl (nI (qu k))), (2, .inl (nI w))], [], Hsb) _
      obtain ⟨n, ls, hQ, hin⟩ := hI
      have hcb := cnz_b (lf := lf) 64
      obtain ⟨hQ1, hQ2, hQ3, hQ4, hQ5⟩ := id hQ
      refine mw_go mu_g323 (k := 1) (f1 := (80, [(3, .inr (.inl lf)), (5, .inl (nI (cnz lf 64))), (0, .inr (.inr (some 147))), (1, .inl (nI (qu k))), (2, .inl (nI w))], [.inl (nI (cnz lf 64))], Hsb)) (C := []) rfl trivial ?_
      refine mw_if (P := 0 < (nI (cnz lf 64))) (a := 83) (b := 166) (fun _ => rfl) trivial (fun h4 => ?_) (fun h4 => ?_)
      · -- 83: 0 < (nI (cnz lf 64))
        have nh4 : 0 < (cnz lf 64) := (nI_ltI (by omega) (by omega)).mp (show nI 0 < nI (cnz lf 64) from h4)
        refine mw_go mu_g323 (k := 3) (f1 := (87, [(3, .inr (.inl lf)), (5, .inl (nI (cnz lf 64))), (0, .inr (.inr (some 147))), (1, .inl (nI (qu k))), (2, .inl (nI w))], [.inl ((nI w) * (64 : Int32))], Hsb)) (C := []) rfl trivial ?_
        rw [(show ((nI w) * (64 : Int32)) = (nI (w * 64)) from (nI_mul (a := w) (b := 64)))]
        refine mw_go mu_g323 (k := 1) (f1 := (88, [(3, .inr (.inl lf)), (5, .inl (nI (cnz lf 64))), (0, .inr (.inr (some 147))), (1, .inl (nI (qu k))), (2, .inl (nI w))], [.inr (.inl lf), .inl (nI (w * 64))], Hsb)) (C := []) rfl trivial ?_
        obtain ⟨t, ht1, ht2, ht3⟩ := cnz_low (lf := lf) (by omega)
        obtain ⟨rm1, rm2⟩ := in_room hin ht1 ht2 ht3 (fun s z => bnw_T z)
        refine mw_cIe (fun _ => rfl) trivial (jl_tz_ok (d := (d + 1)) lf) ?_
        rw [show jl_tz lf = nI t from tz64 ht1 ht2 ht3]
        refine mw_go mu_g323 (k := 1) (f1 := (92, [(3, .inr (.inl lf)), (5, .inl (nI (cnz lf 64))), (0, .inr (.inr (some 147))), (1, .inl (nI (qu k))), (2, .inl (nI w))], [.inl ((nI (w * 64)) + (nI t))], Hsb)) (C := []) rfl trivial ?_
        rw [(show ((nI (w * 64)) + (nI t)) = (nI ((w * 64) + t)) from (nI_add (w * 64) t))]
        refine mw_go mu_g323 (k := 7) (f1 := (100, [(3, .inr (.inl (lf &&& (lf - (1 : Int64))))), (6, .inl (nI ((w * 64) + t))), (5, .inl (nI (cnz lf 64))), (0, .inr (.inr (some 147))), (1, .inl (nI (qu k))), (2, .inl (nI w))], [], Hsb)) (C := []) rfl trivial ?_
        obtain ⟨lf2, hlf2⟩ : ∃ y, y = (lf &&& (lf - (1 : Int64))) := ⟨_, rfl⟩
        rw [← hlf2]
        have hoff : ∀ i, btz lf2 i = (btz lf i && decide (i ≠ t)) := fun i => by rw [hlf2]; exact low_off ht2 ht3 i
        have hcl : cnz lf2 64 + 1 = cnz lf 64 := (cnz_less ht2 (by rw [hoff]; simp) (fun i hi => by rw [hoff]; simp [hi]) 64).2 ht1
        obtain ⟨hr1, hr2⟩ := in_in (in_step hin ht1 ht2 ht3 hoff)
        have hroom := que_room (n := n + 1) hinj (fun i hi => (hqu i hi).2) hr1 (fun i hi => bnw_T (hr2 i hi)) (fun i j hi hj he => hnot i hi (by rw [he]; exact (bnw_is (hr2 j hj)).2))
        refine mw_go mu_g323 (k := 2) (f1 := (104, [(3, .inr (.inl lf2)), (6, .inl (nI ((w * 64) + t))), (5, .inl (nI (cnz lf 64))), (0, .inr (.inr (some 147))), (1, .inl (nI (qu k))), (2, .inl (nI w))], [.inr (.inr (mu_r Hsb 147 13))], Hsb)) (C := [mu_is Hsb (some 147) 2]) rfl (show mu_is Hsb (some 147) 2 from (ub.1.1.is rfl)) ?_
        rw [(show mu_r Hsb 147 13 = (U.2.2.2.1 147 13) from (ud_q (U := Vb) (m := m) (P := 147) (j := 13) db rfl).trans ((zzb.r 147 13 rfl).trans (zza.r 147 13 rfl)))]
        refine mw_go mu_g323 (k := 3) (f1 := (108, [(3, .inr (.inl lf2)), (6, .inl (nI ((w * 64) + t))), (5, .inl (nI (cnz lf 64))), (0, .inr (.inr (some 147))), (1, .inl (nI (qu k))), (2, .inl (nI w))], [], (mu_si Hsb (mu_p (U.2.2.2.1 147 13)) (nI ((w * 64) + t)).toNatClampNeg (nI (qu k))))) (C := [mu_is Hsb (U.2.2.2.1 147 13) 100, vp_in (nI ((w * 64) + t)) (mu_n Hsb (mu_p (U.2.2.2.1 147 13)))]) rfl (show (mu_is Hsb (U.2.2.2.1 147 13) 100) ∧ (vp_in (nI ((w * 64) + t)) (mu_n Hsb (mu_p (U.2.2.2.1 147 13)))) from ⟨(ub.iA db rfl rfl (show Vb.2.2.2.1 147 13 = (U.2.2.2.1 147 13) from ((zzb.r 147 13 rfl).trans (zza.r 147 13 rfl)))), (ub.vA (i := (w * 64) + t) db rfl rfl (show Vb.2.2.2.1 147 13 = (U.2.2.2.1 147 13) from ((zzb.r 147 13 rfl).trans (zza.r 147 13 rfl))) (show (Vb.2.2.1 147 13).1 = (U.2.2.1 147 13).1 from ((zzb.n 147 13 rfl).trans (zza.n 147 13 rfl))) (by omega) (by omega))⟩) ?_
        rw [(show (nI ((w * 64) + t)).toNatClampNeg = (w * 64) + t from nI_clamp (by omega))]
        obtain ⟨u6, r6, d6⟩ : um m (mu_si Hsb (mu_p (U.2.2.2.1 147 13)) ((w * 64) + t) (nI (qu k))) ∧ ur m C Hsb (mu_si Hsb (mu_p (U.2.2.2.1 147 13)) ((w * 64) + t) (nI (qu k))) ∧ ud m (mu_si Hsb (mu_p (U.2.2.2.1 147 13)) ((w * 64) + t) (nI (qu k))) = (upA Vb 147 13 ((w * 64) + t) (nI (qu k))) := ub.sA (C := C) db rfl rfl (show Vb.2.2.2.1 147 13 = (U.2.2.2.1 147 13) from ((zzb.r 147 13 rfl).trans (zza.r 147 13 rfl)))
        generalize (mu_si Hsb (mu_p (U.2.2.2.1 147 13)) ((w * 64) + t) (nI (qu k))) = Q6 at u6 r6 d6 ⊢
        have qf6 : uq F323 U (upA Vb 147 13 ((w * 64) + t) (nI (qu k))) := qfb.A rfl
        have ht6 : ur m C H Q6 := htb.trans r6
        refine mw_go mu_g323 (k := 2) (f1 := (112, [(3, .inr (.inl lf2)), (6, .inl (nI ((w * 64) + t))), (5, .inl (nI (cnz lf 64))), (0, .inr (.inr (some 147))), (1, .inl (nI (qu k))), (2, .inl (nI w))], [.inr (.inr (mu_r Q6 147 8))], Q6)) (C := [mu_is Q6 (some 147) 2]) rfl (show mu_is Q6 (some 147) 2 from (u6.1.1.is rfl)) ?_
        rw [(show mu_r Q6 147 8 = none from (ud_q (U := (upA Vb 147 13 ((w * 64) + t) (nI (qu k)))) (m := m) (P := 147) (j := 8) d6 rfl).trans ((zzb.r 147 8 rfl).trans ((zza.r 147 8 rfl).trans hgo)))]
        refine mw_if (P := none = none) (a := 139) (b := 115) (fun _ => rfl) (show none ≠ some 3000000 from (fun z => by cases z)) (fun _ => ?_) (fun h7 => absurd rfl h7)
        refine mw_go mu_g323 (k := 2) (f1 := (143, [(3, .inr (.inl lf2)), (6, .inl (nI ((w * 64) + t))), (5, .inl (nI (cnz lf 64))), (0, .inr (.inr (some 147))), (1, .inl (nI (qu k))), (2, .inl (nI w))], [.inr (.inr (mu_r Q6 147 12))], Q6)) (C := [mu_is Q6 (some 147) 2]) rfl (show mu_is Q6 (some 147) 2 from (u6.1.1.is rfl)) ?_
        rw [(show mu_r Q6 147 12 = (U.2.2.2.1 147 12) from (ud_q (U := (upA Vb 147 13 ((w * 64) + t) (nI (qu k)))) (m := m) (P := 147) (j := 12) d6 rfl).trans ((zzb.r 147 12 rfl).trans (zza.r 147 12 rfl)))]
        refine mw_go mu_g323 (k := 2) (f1 := (147, [(3, .inr (.inl lf2)), (6, .inl (nI ((w * 64) + t))), (5, .inl (nI (cnz lf 64))), (0, .inr (.inr (some 147))), (1, .inl (nI (qu k))), (2, .inl (nI w))], [.inl (mu_i Q6 147 18), .inr (.inr (U.2.2.2.1 147 12))], Q6)) (C := [mu_is Q6 (some 147) 2]) rfl (show mu_is Q6 (some 147) 2 from (u6.1.1.is rfl)) ?_
        rw [(show mu_i Q6 147 18 = (nI (tl + n)) from (ud_i (U := (upA Vb 147 13 ((w * 64) + t) (nI (qu k)))) (m := m) (P := 147) (j := 18) d6 rfl).trans hQ1)]
        refine mw_go mu_g323 (k := 2) (f1 := (150, [(3, .inr (.inl lf2)), (6, .inl (nI ((w * 64) + t))), (5, .inl (nI (cnz lf 64))), (0, .inr (.inr (some 147))), (1, .inl (nI (qu k))), (2, .inl (nI w))], [], (mu_si Q6 (mu_p (U.2.2.2.1 147 12)) (nI (tl + n)).toNatClampNeg (nI ((w * 64) + t))))) (C := [mu_is Q6 (U.2.2.2.1 147 12) 100, vp_in (nI (tl + n)) (mu_n Q6 (mu_p (U.2.2.2.1 147 12)))]) rfl (show (mu_is Q6 (U.2.2.2.1 147 12) 100) ∧ (vp_in (nI (tl + n)) (mu_n Q6 (mu_p (U.2.2.2.1 147 12)))) from ⟨(u6.iA d6 rfl rfl (show (upA Vb 147 13 ((w * 64) + t) (nI (qu k))).2.2.2.1 147 12 = (U.2.2.2.1 147 12) from ((zzb.r 147 12 rfl).trans (zza.r 147 12 rfl)))), (u6.vA (i := tl + n) d6 rfl rfl (show (upA Vb 147 13 ((w * 64) + t) (nI (qu k))).2.2.2.1 147 12 = (U.2.2.2.1 147 12) from ((zzb.r 147 12 rfl).trans (zza.r 147 12 rfl))) (show ((upA Vb 147 13 ((w * 64) + t) (nI (qu k))).2.2.1 147 12).1 = (U.2.2.1 147 12).1 from ((zzb.n 147 12 rfl).trans (zza.n 147 12 rfl))) (by omega) (by omega))⟩) ?_
        rw [(show (nI (tl + n)).toNatClampNeg = tl + n from nI_clamp (by omega))]
        obtain ⟨u8, r8, d8⟩ : um m (mu_si Q6 (mu_p (U.2.2.2.1 147 12)) (tl + n) (nI ((w * 64) + t))) ∧ ur m C Q6 (mu_si Q6 (mu_p (U.2.2.2.1 147 12)) (tl + n) (nI ((w * 64) + t))) ∧ ud m (mu_si Q6 (mu_p (U.2.2.2.1 147 12)) (tl + n) (nI ((w * 64) + t))) = (upA (upA Vb 147 13 ((w * 64) + t) (nI (qu k))) 147 12 (tl + n) (nI ((w * 64) + t))) := u6.sA (C := C) d6 rfl rfl (show (upA Vb 147 13 ((w * 64) + t) (nI (qu k))).2.2.2.1 147 12 = (U.2.2.2.1 147 12) from ((zzb.r 147 12 rfl).trans (zza.r 147 12 rfl)))
        generalize (mu_si Q6 (mu_p (U.2.2.2.1 147 12)) (tl + n) (nI ((w * 64) + t))) = Q8 at u8 r8 d8 ⊢
        have qf8 : uq F323 U (upA (upA Vb 147 13 ((w * 64) + t) (nI (qu k))) 147 12 (tl + n) (nI ((w * 64) + t))) := qf6.A rfl
        have ht8 : ur m C H Q8 := ht6.trans r8
        refine mw_go mu_g323 (k := 3) (f1 := (155, [(3, .inr (.inl lf2)), (6, .inl (nI ((w * 64) + t))), (5, .inl (nI (cnz lf 64))), (0, .inr (.inr (some 147))), (1, .inl (nI (qu k))), (2, .inl (nI w))], [.inl (mu_i Q8 147 18), .inr (.inr (some 147))], Q8)) (C := [mu_is Q8 (some 147) 2]) rfl (show mu_is Q8 (some 147) 2 from (u8.1.1.is rfl)) ?_
        rw [(show mu_i Q8 147 18 = (nI (tl + n)) from (ud_i (U := (upA (upA Vb 147 13 ((w * 64) + t) (nI (qu k))) 147 12 (tl + n) (nI ((w * 64) + t)))) (m := m) (P := 147) (j := 18) d8 rfl).trans hQ1)]
        refine mw_go mu_g323 (k := 2) (f1 := (157, [(3, .inr (.inl lf2)), (6, .inl (nI ((w * 64) + t))), (5, .inl (nI (cnz lf 64))), (0, .inr (.inr (some 147))), (1, .inl (nI (qu k))), (2, .inl (nI w))], [.inl ((nI (tl + n)) + (1 : Int32)), .inr (.inr (some 147))], Q8)) (C := []) rfl trivial ?_
        rw [(show ((nI (tl + n)) + (1 : Int32)) = (nI ((tl + n) + 1)) from (nI_add (tl + n) 1))]
        refine mw_go mu_g323 (k := 1) (f1 := (160, [(3, .inr (.inl lf2)), (6, .inl (nI ((w * 64) + t))), (5, .inl (nI (cnz lf 64))), (0, .inr (.inr (some 147))), (1, .inl (nI (qu k))), (2, .inl (nI w))], [], (mu_si Q8 147 18 (nI ((tl + n) + 1))))) (C := [mu_is Q8 (some 147) 2]) rfl (show mu_is Q8 (some 147) 2 from (u8.1.1.is rfl)) ?_
        obtain ⟨u9, r9, d9⟩ : um m (mu_si Q8 147 18 (nI ((tl + n) + 1))) ∧ ur m C Q8 (mu_si Q8 147 18 (nI ((tl + n) + 1))) ∧ ud m (mu_si Q8 147 18 (nI ((tl + n) + 1))) = (upI (upA (upA Vb 147 13 ((w * 64) + t) (nI (qu k))) 147 12 (tl + n) (nI ((w * 64) + t))) 147 18 (nI ((tl + n) + 1))) := u8.sI (C := C) d8 rfl
        generalize (mu_si Q8 147 18 (nI ((tl + n) + 1))) = Q9 at u9 r9 d9 ⊢
        have qf9 : uq F323 U (upI (upA (upA Vb 147 13 ((w * 64) + t) (nI (qu k))) 147 12 (tl + n) (nI ((w * 64) + t))) 147 18 (nI ((tl + n) + 1))) := qf8.I rfl
        have ht9 : ur m C H Q9 := ht8.trans r9
        refine mw_go mu_g323 (k := 1) (f1 := (163, [(5, .inl ((nI (cnz lf 64)) + (-1))), (3, .inr (.inl lf2)), (6, .inl (nI ((w * 64) + t))), (0, .inr (.inr (some 147))), (1, .inl (nI (qu k))), (2, .inl (nI w))], [], Q9)) (C := []) rfl trivial ?_
        rw [(show ((nI (cnz lf 64)) + (-1)) = (nI ((cnz lf 64) - 1)) from ((Int32.sub_eq_add_neg _ _).symm.trans (nI_sub (a := cnz lf 64) (b := 1) (by omega))))]
        rw [show (nI ((cnz lf 64) - 1)) = nI (cnz lf2 64) from congrArg nI (by omega)]
        refine mw_go mu_g323 (k := 1) (f1 := (78, [(5, .inl (nI (cnz lf2 64))), (3, .inr (.inl lf2)), (6, .inl (nI ((w * 64) + t))), (0, .inr (.inr (some 147))), (1, .inl (nI (qu k))), (2, .inl (nI w))], [], Q9)) (C := []) rfl trivial ?_
        exact mw_sub (by simp) (ihb (lf2, Q9) ⟨u9, ht9, (show uq F323b (upL Va 150 w (((Va.2.2.2.2.1 150) w) &&& (lf0 ^^^ (-1 : Int64)))) (ud m Q9) from by rw [d9]; exact (((zzb.A rfl).A rfl).I rfl)), (show ∃ (n : Nat) (ls : Nat → Nat), QNW (ud m Q9) U tl T (qu k) n ls ∧ inw ls n (BNW U T) w lf2 from by rw [d9]; exact ⟨n + 1, fun i => if i = n then 64 * w + t else ls i, ⟨rfl, fun i hi => (by show (if tl + i = tl + n then nI (w * 64 + t) else (Vb.2.2.1 147 12).2 (tl + i)) = nI (if i = n then 64 * w + t else ls i); rw [show w * 64 + t = 64 * w + t by omega]; by_cases ei : i = n; (rw [if_pos (by omega), if_pos ei]); (rw [if_neg (by omega), if_neg ei]; exact hQ2 i (by omega))), fun i hi => (by show (if i = tl + n then nI (w * 64 + t) else (Vb.2.2.1 147 12).2 i) = _; rw [if_neg (by omega)]; exact hQ3 i hi), fun i hi => (by show (if (if i = n then 64 * w + t else ls i) = w * 64 + t then nI (qu k) else (Vb.2.2.1 147 13).2 (if i = n then 64 * w + t else ls i)) = nI (qu k); by_cases ei : i = n; (rw [if_pos ei, if_pos (by omega)]); (rw [if_neg ei]; by_cases e2 : ls i = w * 64 + t; (rw [if_pos e2]); (rw [if_neg e2]; exact hQ4 i (by omega)))), fun j hj => (by show (if j = w * 64 + t then nI (qu k) else (Vb.2.2.1 147 13).2 j) = _; have hjn : ¬ (if n = n then 64 * w + t else ls n) = j := hj n (by omega); rw [if_pos rfl] at hjn; rw [if_neg (by omega)]; exact hQ5 j (fun i hi => by have y : ¬ (if i = n then 64 * w + t else ls i) = j := hj i (by omega); rw [if_neg (by omega)] at y; exact y))⟩, in_step hin ht1 ht2 ht3 hoff⟩)⟩ (by show cnz lf2 64 < cnz lf 64; omega))
      · -- 166: not 0 < (nI (cnz lf 64))
        have nh4 : ¬ 0 < (cnz lf 64) := fun z => h4 (show nI 0 < nI (cnz lf 64) from (nI_ltI (by omega) (by omega)).mpr z)
        refine mw_go mu_g323 (k := 1) (f1 := (169, [(2, .inl ((nI w) + 1)), (3, .inr (.inl lf)), (5, .inl (nI (cnz lf 64))), (0, .inr (.inr (some 147))), (1, .inl (nI (qu k)))], [], Hsb)) (C := []) rfl trivial ?_
        rw [(show ((nI w) + 1) = (nI (w + 1)) from (nI_add w 1))]
        refine mw_go mu_g323 (k := 1) (f1 := (20, [(2, .inl (nI (w + 1))), (3, .inr (.inl lf)), (5, .inl (nI (cnz lf 64))), (0, .inr (.inr (some 147))), (1, .inl (nI (qu k)))], [], Hsb)) (C := []) rfl trivial ?_
        exact mw_sub (by simp) (iha (w + 1, Hsb) ⟨ub, htb, (show uq F323a U (ud m Hsb) from by rw [db]; exact ((zza.L rfl).tr zzb rfl)), (show bf ≤ (w + 1) ∧ (w + 1) ≤ bt from (by omega)), (show ∀ i, (ud m Hsb).2.2.2.2.1 150 i = if bf ≤ i ∧ i < (w + 1) then U.2.2.2.2.1 150 i &&& ((U.2.2.2.2.1 146 i &&& U.2.2.2.2.1 150 i) ^^^ (-1 : Int64)) else U.2.2.2.2.1 150 i from by rw [db]; exact (fun i => by rw [(show Vb.2.2.2.2.1 150 = (upL Va 150 w (((Va.2.2.2.2.1 150) w) &&& (lf0 ^^^ (-1 : Int64)))).2.2.2.2.1 150 from (zzb.l 150 rfl))]; show (if (150 = 150 ∧ i = w) then Va.2.2.2.2.1 150 w &&& (lf0 ^^^ (-1 : Int64)) else Va.2.2.2.2.1 150 i) = _; by_cases y : i = w; (rw [if_pos ⟨rfl, y⟩, if_pos (by omega), y, hu0, hlf0, hu0]); (rw [if_neg (fun z => y z.2), hU i]; by_cases z : bf ≤ i ∧ i < w; (rw [if_pos z, if_pos (by omega)]); (rw [if_neg z, if_neg (by omega)])))), (show ∃ (n : Nat) (ls : Nat → Nat), QNW (ud m Hsb) U tl T (qu k) n ls ∧ enw ls n (BNW U T) (w + 1) from by rw [db]; exact ⟨n, ls, hQ, in_end hin (cnz_none 64 (by omega))⟩)⟩ (by show bt - (w + 1) < bt - w; omega))
    · -- 72: not (lg_cmp lf0 (0 : Int64)) = 0
      refine mw_go mu_g323 (k := 1) (f1 := (73, [(3, .inr (.inl lf0)), (2, .inl (nI w)), (0, .inr (.inr (some 147))), (1, .inl (nI (qu k)))], [.inr (.inl lf0)], Q2)) (C := []) rfl trivial ?_
      refine mw_cIe (fun _ => rfl) trivial (jl_bits_ok (d := (d + 2)) lf0) ?_
      rw [show jl_bits lf0 = nI (cnz lf0 64) from jl_bits_c]
      refine mw_go mu_g323 (k := 1) (f1 := (78, [(5, .inl (nI (cnz lf0 64))), (3, .inr (.inl lf0)), (2, .inl (nI w)), (0, .inr (.inr (some 147))), (1, .inl (nI (qu k)))], [], Q2)) (C := []) rfl trivial ?_
      refine mw_sub (L' := [(3, .inr (.inl lf0)), (5, .inl (nI (cnz lf0 64))), (0, .inr (.inr (some 147))), (1, .inl (nI (qu k))), (2, .inl (nI w))]) (by simp) ?_
      refine mw_down (α := Int64 × mu_H) (fun zs => (78, [(3, .inr (.inl zs.1)), (5, .inl (nI (cnz zs.1 64))), (0, .inr (.inr (some 147))), (1, .inl (nI (qu k))), (2, .inl (nI w))], [], zs.2)) (fun zs => cnz zs.1 64) (fun zs => um m zs.2 ∧ ur m C H zs.2 ∧ (uq F323b (upL Va 150 w (((Va.2.2.2.2.1 150) w) &&& (lf0 ^^^ (-1 : Int64)))) (ud m zs.2)) ∧ (∃ (n : Nat) (ls : Nat → Nat), QNW (ud m zs.2) U tl T (qu k) n ls ∧ inw ls n (BNW U T) w zs.1)) (fun zs hzb ihb => ?_) (lf0, Q2) ⟨u2, ht2, (show uq F323b (upL Va 150 w (((Va.2.2.2.2.1 150) w) &&& (lf0 ^^^ (-1 : Int64)))) (ud m Q2) from by rw [d2]; exact uq.refl _ _), (show ∃ (n : Nat) (ls : Nat → Nat), QNW (ud m Q2) U tl T (qu k) n ls ∧ inw ls n (BNW U T) w lf0 from by rw [d2]; exact ⟨n0, ls0, hQ0, in_start hen hlq⟩)⟩
      obtain ⟨lf, Hsb⟩ := zs
      obtain ⟨ub, htb, db, hI⟩ := hzb
      have ub : um m Hsb := ub
      have htb : ur m C H Hsb := htb
      have zzb : uq F323b (upL Va 150 w (((Va.2.2.2.2.1 150) w) &&& (lf0 ^^^ (-1 : Int64)))) (ud m Hsb) := db
      have hI : ∃ (n : Nat) (ls : Nat → Nat), QNW (ud m Hsb) U tl T (qu k) n ls ∧ inw ls n (BNW U T) w lf := hI
      obtain ⟨Vb, db⟩ : ∃ V, ud m Hsb = V := ⟨_, rfl⟩
      rw [db] at zzb hI
      have qfb : uq F323 U Vb := qf2.tr zzb rfl
      show mu_W _ _ (78, [(3, .inr (.inl lf)), (5, .inl (nI (cnz lf 64))), (0, .inr (.inr (some 147))), (1, .inl (nI (qu k))), (2, .inl (nI w))], [], Hsb) _
      obtain ⟨n, ls, hQ, hin⟩ := hI
      have hcb := cnz_b (lf := lf) 64
      obtain ⟨hQ1, hQ2, hQ3, hQ4, hQ5⟩ := id hQ
      refine mw_go mu_g323 (k := 1) (f1 := (80, [(3, .inr (.inl lf)), (5, .inl (nI (cnz lf 64))), (0, .inr (.inr (some 147))), (1, .inl (nI (qu k))), (2, .inl (nI w))], [.inl (nI (cnz lf 64))], Hsb)) (C := []) rfl trivial ?_
      refine mw_if (P := 0 < (nI (cnz lf 64))) (a := 83) (b := 166) (fun _ => rfl) trivial (fun h11 => ?_) (fun h11 => ?_)
      · -- 83: 0 < (nI (cnz lf 64))
        have nh11 : 0 < (cnz lf 64) := (nI_ltI (by omega) (by omega)).mp (show nI 0 < nI (cnz lf 64) from h11)
        refine mw_go mu_g323 (k := 3) (f1 := (87, [(3, .inr (.inl lf)), (5, .inl (nI (cnz lf 64))), (0, .inr (.inr (some 147))), (1, .inl (nI (qu k))), (2, .inl (nI w))], [.inl ((nI w) * (64 : Int32))], Hsb)) (C := []) rfl trivial ?_
        rw [(show ((nI w) * (64 : Int32)) = (nI (w * 64)) from (nI_mul (a := w) (b := 64)))]
        refine mw_go mu_g323 (k := 1) (f1 := (88, [(3, .inr (.inl lf)), (5, .inl (nI (cnz lf 64))), (0, .inr (.inr (some 147))), (1, .inl (nI (qu k))), (2, .inl (nI w))], [.inr (.inl lf), .inl (nI (w * 64))], Hsb)) (C := []) rfl trivial ?_
        obtain ⟨t, ht1, ht2, ht3⟩ := cnz_low (lf := lf) (by omega)
        obtain ⟨rm1, rm2⟩ := in_room hin ht1 ht2 ht3 (fun s z => bnw_T z)
        refine mw_cIe (fun _ => rfl) trivial (jl_tz_ok (d := (d + 1)) lf) ?_
        rw [show jl_tz lf = nI t from tz64 ht1 ht2 ht3]
        refine mw_go mu_g323 (k := 1) (f1 := (92, [(3, .inr (.inl lf)), (5, .inl (nI (cnz lf 64))), (0, .inr (.inr (some 147))), (1, .inl (nI (qu k))), (2, .inl (nI w))], [.inl ((nI (w * 64)) + (nI t))], Hsb)) (C := []) rfl trivial ?_
        rw [(show ((nI (w * 64)) + (nI t)) = (nI ((w * 64) + t)) from (nI_add (w * 64) t))]
        refine mw_go mu_g323 (k := 7) (f1 := (100, [(3, .inr (.inl (lf &&& (lf - (1 : Int64))))), (6, .inl (nI ((w * 64) + t))), (5, .inl (nI (cnz lf 64))), (0, .inr (.inr (some 147))), (1, .inl (nI (qu k))), (2, .inl (nI w))], [], Hsb)) (C := []) rfl trivial ?_
        obtain ⟨lf2, hlf2⟩ : ∃ y, y = (lf &&& (lf - (1 : Int64))) := ⟨_, rfl⟩
        rw [← hlf2]
        have hoff : ∀ i, btz lf2 i = (btz lf i && decide (i ≠ t)) := fun i => by rw [hlf2]; exact low_off ht2 ht3 i
        have hcl : cnz lf2 64 + 1 = cnz lf 64 := (cnz_less ht2 (by rw [hoff]; simp) (fun i hi => by rw [hoff]; simp [hi]) 64).2 ht1
        obtain ⟨hr1, hr2⟩ := in_in (in_step hin ht1 ht2 ht3 hoff)
        have hroom := que_room (n := n + 1) hinj (fun i hi => (hqu i hi).2) hr1 (fun i hi => bnw_T (hr2 i hi)) (fun i j hi hj he => hnot i hi (by rw [he]; exact (bnw_is (hr2 j hj)).2))
        refine mw_go mu_g323 (k := 2) (f1 := (104, [(3, .inr (.inl lf2)), (6, .inl (nI ((w * 64) + t))), (5, .inl (nI (cnz lf 64))), (0, .inr (.inr (some 147))), (1, .inl (nI (qu k))), (2, .inl (nI w))], [.inr (.inr (mu_r Hsb 147 13))], Hsb)) (C := [mu_is Hsb (some 147) 2]) rfl (show mu_is Hsb (some 147) 2 from (ub.1.1.is rfl)) ?_
        rw [(show mu_r Hsb 147 13 = (U.2.2.2.1 147 13) from (ud_q (U := Vb) (m := m) (P := 147) (j := 13) db rfl).trans ((zzb.r 147 13 rfl).trans (zza.r 147 13 rfl)))]
        refine mw_go mu_g323 (k := 3) (f1 := (108, [(3, .inr (.inl lf2)), (6, .inl (nI ((w * 64) + t))), (5, .inl (nI (cnz lf 64))), (0, .inr (.inr (some 147))), (1, .inl (nI (qu k))), (2, .inl (nI w))], [], (mu_si Hsb (mu_p (U.2.2.2.1 147 13)) (nI ((w * 64) + t)).toNatClampNeg (nI (qu k))))) (C := [mu_is Hsb (U.2.2.2.1 147 13) 100, vp_in (nI ((w * 64) + t)) (mu_n Hsb (mu_p (U.2.2.2.1 147 13)))]) rfl (show (mu_is Hsb (U.2.2.2.1 147 13) 100) ∧ (vp_in (nI ((w * 64) + t)) (mu_n Hsb (mu_p (U.2.2.2.1 147 13)))) from ⟨(ub.iA db rfl rfl (show Vb.2.2.2.1 147 13 = (U.2.2.2.1 147 13) from ((zzb.r 147 13 rfl).trans (zza.r 147 13 rfl)))), (ub.vA (i := (w * 64) + t) db rfl rfl (show Vb.2.2.2.1 147 13 = (U.2.2.2.1 147 13) from ((zzb.r 147 13 rfl).trans (zza.r 147 13 rfl))) (show (Vb.2.2.1 147 13).1 = (U.2.2.1 147 13).1 from ((zzb.n 147 13 rfl).trans (zza.n 147 13 rfl))) (by omega) (by omega))⟩) ?_
        rw [(show (nI ((w * 64) + t)).toNatClampNeg = (w * 64) + t from nI_clamp (by omega))]
        obtain ⟨u13, r13, d13⟩ : um m (mu_si Hsb (mu_p (U.2.2.2.1 147 13)) ((w * 64) + t) (nI (qu k))) ∧ ur m C Hsb (mu_si Hsb (mu_p (U.2.2.2.1 147 13)) ((w * 64) + t) (nI (qu k))) ∧ ud m (mu_si Hsb (mu_p (U.2.2.2.1 147 13)) ((w * 64) + t) (nI (qu k))) = (upA Vb 147 13 ((w * 64) + t) (nI (qu k))) := ub.sA (C := C) db rfl rfl (show Vb.2.2.2.1 147 13 = (U.2.2.2.1 147 13) from ((zzb.r 147 13 rfl).trans (zza.r 147 13 rfl)))
        generalize (mu_si Hsb (mu_p (U.2.2.2.1 147 13)) ((w * 64) + t) (nI (qu k))) = Q13 at u13 r13 d13 ⊢
        have qf13 : uq F323 U (upA Vb 147 13 ((w * 64) + t) (nI (qu k))) := qfb.A rfl
        have ht13 : ur m C H Q13 := htb.trans r13
        refine mw_go mu_g323 (k := 2) (f1 := (112, [(3, .inr (.inl lf2)), (6, .inl (nI ((w * 64) + t))), (5, .inl (nI (cnz lf 64))), (0, .inr (.inr (some 147))), (1, .inl (nI (qu k))), (2, .inl (nI w))], [.inr (.inr (mu_r Q13 147 8))], Q13)) (C := [mu_is Q13 (some 147) 2]) rfl (show mu_is Q13 (some 147) 2 from (u13.1.1.is rfl)) ?_
        rw [(show mu_r Q13 147 8 = none from (ud_q (U := (upA Vb 147 13 ((w * 64) + t) (nI (qu k)))) (m := m) (P := 147) (j := 8) d13 rfl).trans ((zzb.r 147 8 rfl).trans ((zza.r 147 8 rfl).trans hgo)))]
        refine mw_if (P := none = none) (a := 139) (b := 115) (fun _ => rfl) (show none ≠ some 3000000 from (fun z => by cases z)) (fun _ => ?_) (fun h14 => absurd rfl h14)
        refine mw_go mu_g323 (k := 2) (f1 := (143, [(3, .inr (.inl lf2)), (6, .inl (nI ((w * 64) + t))), (5, .inl (nI (cnz lf 64))), (0, .inr (.inr (some 147))), (1, .inl (nI (qu k))), (2, .inl (nI w))], [.inr (.inr (mu_r Q13 147 12))], Q13)) (C := [mu_is Q13 (some 147) 2]) rfl (show mu_is Q13 (some 147) 2 from (u13.1.1.is rfl)) ?_
        rw [(show mu_r Q13 147 12 = (U.2.2.2.1 147 12) from (ud_q (U := (upA Vb 147 13 ((w * 64) + t) (nI (qu k)))) (m := m) (P := 147) (j := 12) d13 rfl).trans ((zzb.r 147 12 rfl).trans (zza.r 147 12 rfl)))]
        refine mw_go mu_g323 (k := 2) (f1 := (147, [(3, .inr (.inl lf2)), (6, .inl (nI ((w * 64) + t))), (5, .inl (nI (cnz lf 64))), (0, .inr (.inr (some 147))), (1, .inl (nI (qu k))), (2, .inl (nI w))], [.inl (mu_i Q13 147 18), .inr (.inr (U.2.2.2.1 147 12))], Q13)) (C := [mu_is Q13 (some 147) 2]) rfl (show mu_is Q13 (some 147) 2 from (u13.1.1.is rfl)) ?_
        rw [(show mu_i Q13 147 18 = (nI (tl + n)) from (ud_i (U := (upA Vb 147 13 ((w * 64) + t) (nI (qu k)))) (m := m) (P := 147) (j := 18) d13 rfl).trans hQ1)]
        refine mw_go mu_g323 (k := 2) (f1 := (150, [(3, .inr (.inl lf2)), (6, .inl (nI ((w * 64) + t))), (5, .inl (nI (cnz lf 64))), (0, .inr (.inr (some 147))), (1, .inl (nI (qu k))), (2, .inl (nI w))], [], (mu_si Q13 (mu_p (U.2.2.2.1 147 12)) (nI (tl + n)).toNatClampNeg (nI ((w * 64) + t))))) (C := [mu_is Q13 (U.2.2.2.1 147 12) 100, vp_in (nI (tl + n)) (mu_n Q13 (mu_p (U.2.2.2.1 147 12)))]) rfl (show (mu_is Q13 (U.2.2.2.1 147 12) 100) ∧ (vp_in (nI (tl + n)) (mu_n Q13 (mu_p (U.2.2.2.1 147 12)))) from ⟨(u13.iA d13 rfl rfl (show (upA Vb 147 13 ((w * 64) + t) (nI (qu k))).2.2.2.1 147 12 = (U.2.2.2.1 147 12) from ((zzb.r 147 12 rfl).trans (zza.r 147 12 rfl)))), (u13.vA (i := tl + n) d13 rfl rfl (show (upA Vb 147 13 ((w * 64) + t) (nI (qu k))).2.2.2.1 147 12 = (U.2.2.2.1 147 12) from ((zzb.r 147 12 rfl).trans (zza.r 147 12 rfl))) (show ((upA Vb 147 13 ((w * 64) + t) (nI (qu k))).2.2.1 147 12).1 = (U.2.2.1 147 12).1 from ((zzb.n 147 12 rfl).trans (zza.n 147 12 rfl))) (by omega) (by omega))⟩) ?_
        rw [(show (nI (tl + n)).toNatClampNeg = tl + n from nI_clamp (by omega))]
        obtain ⟨u15, r15, d15⟩ : um m (mu_si Q13 (mu_p (U.2.2.2.1 147 12)) (tl + n) (nI ((w * 64) + t))) ∧ ur m C Q13 (mu_si Q13 (mu_p (U.2.2.2.1 147 12)) (tl + n) (nI ((w * 64) + t))) ∧ ud m (mu_si Q13 (mu_p (U.2.2.2.1 147 12)) (tl + n) (nI ((w * 64) + t))) = (upA (upA Vb 147 13 ((w * 64) + t) (nI (qu k))) 147 12 (tl + n) (nI ((w * 64) + t))) := u13.sA (C := C) d13 rfl rfl (show (upA Vb 147 13 ((w * 64) + t) (nI (qu k))).2.2.2.1 147 12 = (U.2.2.2.1 147 12) from ((zzb.r 147 12 rfl).trans (zza.r 147 12 rfl)))
        generalize (mu_si Q13 (mu_p (U.2.2.2.1 147 12)) (tl + n) (nI ((w * 64) + t))) = Q15 at u15 r15 d15 ⊢
        have qf15 : uq F323 U (upA (upA Vb 147 13 ((w * 64) + t) (nI (qu k))) 147 12 (tl + n) (nI ((w * 64) + t))) := qf13.A rfl
        have ht15 : ur m C H Q15 := ht13.trans r15
        refine mw_go mu_g323 (k := 3) (f1 := (155, [(3, .inr (.inl lf2)), (6, .inl (nI ((w * 64) + t))), (5, .inl (nI (cnz lf 64))), (0, .inr (.inr (some 147))), (1, .inl (nI (qu k))), (2, .inl (nI w))], [.inl (mu_i Q15 147 18), .inr (.inr (some 147))], Q15)) (C := [mu_is Q15 (some 147) 2]) rfl (show mu_is Q15 (some 147) 2 from (u15.1.1.is rfl)) ?_
        rw [(show mu_i Q15 147 18 = (nI (tl + n)) from (ud_i (U := (upA (upA Vb 147 13 ((w * 64) + t) (nI (qu k))) 147 12 (tl + n) (nI ((w * 64) + t)))) (m := m) (P := 147) (j := 18) d15 rfl).trans hQ1)]
        refine mw_go mu_g323 (k := 2) (f1 := (157, [(3, .inr (.inl lf2)), (6, .inl (nI ((w * 64) + t))), (5, .inl (nI (cnz lf 64))), (0, .inr (.inr (some 147))), (1, .inl (nI (qu k))), (2, .inl (nI w))], [.inl ((nI (tl + n)) + (1 : Int32)), .inr (.inr (some 147))], Q15)) (C := []) rfl trivial ?_
        rw [(show ((nI (tl + n)) + (1 : Int32)) = (nI ((tl + n) + 1)) from (nI_add (tl + n) 1))]
        refine mw_go mu_g323 (k := 1) (f1 := (160, [(3, .inr (.inl lf2)), (6, .inl (nI ((w * 64) + t))), (5, .inl (nI (cnz lf 64))), (0, .inr (.inr (some 147))), (1, .inl (nI (qu k))), (2, .inl (nI w))], [], (mu_si Q15 147 18 (nI ((tl + n) + 1))))) (C := [mu_is Q15 (some 147) 2]) rfl (show mu_is Q15 (some 147) 2 from (u15.1.1.is rfl)) ?_
        obtain ⟨u16, r16, d16⟩ : um m (mu_si Q15 147 18 (nI ((tl + n) + 1))) ∧ ur m C Q15 (mu_si Q15 147 18 (nI ((tl + n) + 1))) ∧ ud m (mu_si Q15 147 18 (nI ((tl + n) + 1))) = (upI (upA (upA Vb 147 13 ((w * 64) + t) (nI (qu k))) 147 12 (tl + n) (nI ((w * 64) + t))) 147 18 (nI ((tl + n) + 1))) := u15.sI (C := C) d15 rfl
        generalize (mu_si Q15 147 18 (nI ((tl + n) + 1))) = Q16 at u16 r16 d16 ⊢
        have qf16 : uq F323 U (upI (upA (upA Vb 147 13 ((w * 64) + t) (nI (qu k))) 147 12 (tl + n) (nI ((w * 64) + t))) 147 18 (nI ((tl + n) + 1))) := qf15.I rfl
        have ht16 : ur m C H Q16 := ht15.trans r16
        refine mw_go mu_g323 (k := 1) (f1 := (163, [(5, .inl ((nI (cnz lf 64)) + (-1))), (3, .inr (.inl lf2)), (6, .inl (nI ((w * 64) + t))), (0, .inr (.inr (some 147))), (1, .inl (nI (qu k))), (2, .inl (nI w))], [], Q16)) (C := []) rfl trivial ?_
        rw [(show ((nI (cnz lf 64)) + (-1)) = (nI ((cnz lf 64) - 1)) from ((Int32.sub_eq_add_neg _ _).symm.trans (nI_sub (a := cnz lf 64) (b := 1) (by omega))))]
        rw [show (nI ((cnz lf 64) - 1)) = nI (cnz lf2 64) from congrArg nI (by omega)]
        refine mw_go mu_g323 (k := 1) (f1 := (78, [(5, .inl (nI (cnz lf2 64))), (3, .inr (.inl lf2)), (6, .inl (nI ((w * 64) + t))), (0, .inr (.inr (some 147))), (1, .inl (nI (qu k))), (2, .inl (nI w))], [], Q16)) (C := []) rfl trivial ?_
        exact mw_sub (by simp) (ihb (lf2, Q16) ⟨u16, ht16, (show uq F323b (upL Va 150 w (((Va.2.2.2.2.1 150) w) &&& (lf0 ^^^ (-1 : Int64)))) (ud m Q16) from by rw [d16]; exact (((zzb.A rfl).A rfl).I rfl)), (show ∃ (n : Nat) (ls : Nat → Nat), QNW (ud m Q16) U tl T (qu k) n ls ∧ inw ls n (BNW U T) w lf2 from by rw [d16]; exact ⟨n + 1, fun i => if i = n then 64 * w + t else ls i, ⟨rfl, fun i hi => (by show (if tl + i = tl + n then nI (w * 64 + t) else (Vb.2.2.1 147 12).2 (tl + i)) = nI (if i = n then 64 * w + t else ls i); rw [show w * 64 + t = 64 * w + t by omega]; by_cases ei : i = n; (rw [if_pos (by omega), if_pos ei]); (rw [if_neg (by omega), if_neg ei]; exact hQ2 i (by omega))), fun i hi => (by show (if i = tl + n then nI (w * 64 + t) else (Vb.2.2.1 147 12).2 i) = _; rw [if_neg (by omega)]; exact hQ3 i hi), fun i hi => (by show (if (if i = n then 64 * w + t else ls i) = w * 64 + t then nI (qu k) else (Vb.2.2.1 147 13).2 (if i = n then 64 * w + t else ls i)) = nI (qu k); by_cases ei : i = n; (rw [if_pos ei, if_pos (by omega)]); (rw [if_neg ei]; by_cases e2 : ls i = w * 64 + t; (rw [if_pos e2]); (rw [if_neg e2]; exact hQ4 i (by omega)))), fun j hj => (by show (if j = w * 64 + t then nI (qu k) else (Vb.2.2.1 147 13).2 j) = _; have hjn : ¬ (if n = n then 64 * w + t else ls n) = j := hj n (by omega); rw [if_pos rfl] at hjn; rw [if_neg (by omega)]; exact hQ5 j (fun i hi => by have y : ¬ (if i = n then 64 * w + t else ls i) = j := hj i (by omega); rw [if_neg (by omega)] at y; exact y))⟩, in_step hin ht1 ht2 ht3 hoff⟩)⟩ (by show cnz lf2 64 < cnz lf 64; omega))
      · -- 166: not 0 < (nI (cnz lf 64))
        have nh11 : ¬ 0 < (cnz lf 64) := fun z => h11 (show nI 0 < nI (cnz lf 64) from (nI_ltI (by omega) (by omega)).mpr z)
        refine mw_go mu_g323 (k := 1) (f1 := (169, [(2, .inl ((nI w) + 1)), (3, .inr (.inl lf)), (5, .inl (nI (cnz lf 64))), (0, .inr (.inr (some 147))), (1, .inl (nI (qu k)))], [], Hsb)) (C := []) rfl trivial ?_
        rw [(show ((nI w) + 1) = (nI (w + 1)) from (nI_add w 1))]
        refine mw_go mu_g323 (k := 1) (f1 := (20, [(2, .inl (nI (w + 1))), (3, .inr (.inl lf)), (5, .inl (nI (cnz lf 64))), (0, .inr (.inr (some 147))), (1, .inl (nI (qu k)))], [], Hsb)) (C := []) rfl trivial ?_
        exact mw_sub (by simp) (iha (w + 1, Hsb) ⟨ub, htb, (show uq F323a U (ud m Hsb) from by rw [db]; exact ((zza.L rfl).tr zzb rfl)), (show bf ≤ (w + 1) ∧ (w + 1) ≤ bt from (by omega)), (show ∀ i, (ud m Hsb).2.2.2.2.1 150 i = if bf ≤ i ∧ i < (w + 1) then U.2.2.2.2.1 150 i &&& ((U.2.2.2.2.1 146 i &&& U.2.2.2.2.1 150 i) ^^^ (-1 : Int64)) else U.2.2.2.2.1 150 i from by rw [db]; exact (fun i => by rw [(show Vb.2.2.2.2.1 150 = (upL Va 150 w (((Va.2.2.2.2.1 150) w) &&& (lf0 ^^^ (-1 : Int64)))).2.2.2.2.1 150 from (zzb.l 150 rfl))]; show (if (150 = 150 ∧ i = w) then Va.2.2.2.2.1 150 w &&& (lf0 ^^^ (-1 : Int64)) else Va.2.2.2.2.1 150 i) = _; by_cases y : i = w; (rw [if_pos ⟨rfl, y⟩, if_pos (by omega), y, hu0, hlf0, hu0]); (rw [if_neg (fun z => y z.2), hU i]; by_cases z : bf ≤ i ∧ i < w; (rw [if_pos z, if_pos (by omega)]); (rw [if_neg z, if_neg (by omega)])))), (show ∃ (n : Nat) (ls : Nat → Nat), QNW (ud m Hsb) U tl T (qu k) n ls ∧ enw ls n (BNW U T) (w + 1) from by rw [db]; exact ⟨n, ls, hQ, in_end hin (cnz_none 64 (by omega))⟩)⟩ (by show bt - (w + 1) < bt - w; omega))
  · -- 172: not (nI w) < (nI bt)
    have nh1 : ¬ w < bt := fun z => h1 (show nI w < nI bt from (nI_ltI (by omega) (by omega)).mpr z)
    refine mw_go mu_g323 (k := 1) (f1 := (173, [(2, .inl (nI w)), (0, .inr (.inr (some 147))), (1, .inl (nI (qu k)))], [.inr (.inr (some 147))], Hsa)) (C := []) rfl trivial ?_
    have hwb2 : w = bt := by omega
    obtain ⟨hq1, hq2, hq3, hq4, hq5⟩ := id hQ0
    have hrl := que_room (n := n0) hinj (fun i hi => (hqu i hi).2) hen.1 (fun i hi => bnw_T ((hen.2 (ls0 i)).mp ⟨i, hi, rfl⟩).2) (fun i j hi hj he => hnot i hi (by rw [he]; exact (bnw_is ((hen.2 (ls0 j)).mp ⟨j, hj, rfl⟩).2).2))
    have hquN : ∀ i, i < tl + n0 → (Va.2.2.1 147 12).2 i = nI (if i < tl then qu i else ls0 (i - tl)) ∧ (if i < tl then qu i else ls0 (i - tl)) < T := fun i hi => by
      by_cases y : i < tl
      · rw [if_pos y, hq3 i y]; exact hqu i y
      · rw [if_neg y]
        have y2 := hq2 (i - tl) (by omega)
        rw [show tl + (i - tl) = i by omega] at y2
        exact ⟨y2, bnw_T ((hen.2 (ls0 (i - tl))).mp ⟨i - tl, by omega, rfl⟩).2⟩
    have hzN : ∀ i, i < c → Va.2.2.2.2.1 150 i = 0 := fun i hi => by rw [hU i, hzc i hi]; by_cases y : bf ≤ i ∧ i < w; (rw [if_pos y]; exact zero_and); (rw [if_neg y])
    refine mw_cV (fun _ => rfl) (show mu_is Hsa (some 147) 2 from (ua.1.1.is rfl)) (gr_open0 (d := (d + 1)) (C := C) (wn := wn) (c := c) (hd := k + 1) (tl := tl + n0) (T := T) (R := R) (rx := rx) (qu := fun i => if i < tl then qu i else ls0 (i - tl)) (ix := ix) ua da ((show (Va.2.1 99 12) = (U.2.1 99 12) from (zza.i 99 12 rfl)).trans hw12) hwb ((show (Va.2.1 147 16) = (U.2.1 147 16) from (zza.i 147 16 rfl)).trans hcur) hc hzN ((show (Va.2.1 147 17) = (U.2.1 147 17) from (zza.i 147 17 rfl)).trans hhead) hq1 (by omega) (by rw [(show (Va.2.2.1 147 12).1 = (U.2.2.1 147 12).1 from (zza.n 147 12 rfl))]; omega) (by rw [(show (Va.2.2.1 147 12).1 = (U.2.2.1 147 12).1 from (zza.n 147 12 rfl))]; exact hq12b) hquN hTb (by rw [(show (Va.2.2.1 129 6).1 = (U.2.2.1 129 6).1 from (zza.n 129 6 rfl))]; exact h6) (by rw [(show (Va.2.2.1 129 6).1 = (U.2.2.1 129 6).1 from (zza.n 129 6 rfl))]; exact h6b) (by rw [(show (Va.2.2.1 129 6) = (U.2.2.1 129 6) from (zza.a 129 6 rfl))]; exact hrx) (by rw [(show (Va.2.2.1 147 10).1 = (U.2.2.1 147 10).1 from (zza.n 147 10 rfl))]; exact hRl) (by rw [(show (Va.2.2.1 147 10).1 = (U.2.2.1 147 10).1 from (zza.n 147 10 rfl))]; exact h10b) (by rw [(show (Va.2.2.1 147 10) = (U.2.2.1 147 10) from (zza.a 147 10 rfl))]; exact hix) ((show (Va.2.2.2.1 147 8) = (U.2.2.2.1 147 8) from (zza.r 147 8 rfl)).trans hgo)) (fun Q17 q17 => ?_)
    obtain ⟨u17, r17, z17, hres⟩ := q17
    have ht17 : ur m C H Q17 := hta.trans r17
    obtain ⟨V17, d17⟩ : ∃ V, ud m Q17 = V := ⟨_, rfl⟩
    rw [d17] at z17 hres
    have qf17 : uq F323 U V17 := qfa.tr z17 rfl
    refine mw_of (fun _ => mu_ret rfl trivial ⟨Q17, rfl, u17, ht17, (by rw [d17]; exact qf17), ?_⟩)
    rw [d17]
    refine ⟨Va, n0, ls0, (show V17.2.2.2.2.1 150 = Va.2.2.2.2.1 150 from z17.l 150 rfl).symm, ⟨(z17.i 147 18 rfl).symm, (z17.a 147 12 rfl).symm, (z17.a 147 13 rfl).symm, (show Va.2.2.1 147 10 = U.2.2.1 147 10 from (zza.a 147 10 rfl))⟩, (show Va.2.2.2.2.1 149 = U.2.2.2.2.1 149 from (zza.l 149 rfl)), hQ0, hrl, by rw [hwb2] at hen; exact hen, by rw [hwb2] at hU; exact hU, hres⟩
end OpenRow
