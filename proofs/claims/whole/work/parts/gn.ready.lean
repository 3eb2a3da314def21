/-! READY: the walk -/
section Ready
variable {H0 H : mu_H} {U : Ud} {m d P bf bt : Nat} {C : Nat → Nat} {Y : Ts} {f od : Nat → Nat} {es : Nat → Int32}
def F383i : Uf := ⟨[], [(0, 12)], [], [], [], false⟩
def F364 : Uf := ⟨[], [(158, 14), (147, 14), (147, 15), (147, 16), (147, 17), (147, 18), (147, 19)], [(147, 10), (147, 12)], [(147, 8)], [149, 150], false⟩
def F383 : Uf := ⟨[21, 22, 16, 23, 24, 25, 27, 18], [(0, 12), (100, 4), (100, 5), (100, 6), (100, 7), (100, 17), (100, 14), (100, 16), (100, 21), (100, 18), (100, 19), (100, 20), (113, 1), (113, 2), (113, 5), (99, 13), (99, 19), (113, 7), (113, 8), (129, 5), (129, 21), (129, 22), (129, 11), (129, 19), (129, 20), (147, 15), (158, 14), (147, 14), (147, 16), (147, 17), (147, 18), (147, 19)], [(100, 3), (100, 8), (100, 12), (100, 13), (100, 15), (100, 9), (100, 10), (100, 11), (99, 18), (113, 3), (113, 4), (129, 6), (129, 7), (129, 10), (129, 8), (129, 9), (129, 12), (129, 14), (129, 4), (129, 15), (129, 16), (129, 13), (147, 10), (147, 11), (147, 12), (147, 13)], [(100, 3), (100, 8), (100, 12), (100, 13), (100, 15), (113, 3), (129, 6), (129, 7), (129, 10), (129, 8), (129, 9), (129, 12), (129, 4), (147, 10), (147, 11), (147, 12), (147, 13), (147, 8)], [127, 126, 117, 124, 125, 145, 146, 149, 150], true⟩
theorem ra_0 (hm : m = 2 ∨ m = 41) {j : Nat} (hj : j < 28) : ra m j ≠ 0 := by
  rcases hm with e | e <;> subst e
  · exact (show ∀ j, j < 28 → ra 2 j ≠ 0 by decide +kernel) j hj
  · exact (show ∀ j, j < 28 → ra 41 j ≠ 0 by decide +kernel) j hj
/-- an int of PathProver itself is written -/
theorem um.s0 {k : Nat} {v : Int32} (h : um m H) : um m (mu_si H 0 k v) ∧ hk (fun p => Nat.beq p 0) H (mu_si H 0 k v) ∧ ud m (mu_si H 0 k v) = ud m H := by
  obtain ⟨kd, hkd⟩ : ∃ k, gi_k 0 = some k := ⟨_, rfl⟩
  have hk' : gk (fun p => Nat.beq p 0) H (mu_si H 0 k v) := gk.si (j := k) (x := v) h.1.1 hkd (Nat.beq_refl _)
  obtain ⟨a, b⟩ := h.1.gk (h.1.1.si hkd rfl) hk'
  refine ⟨⟨a, h.2⟩, b, ?_⟩
  have c : ak m (mu_si H 0 k v) = ak m H := gT_keep (ra_ok h.2) hk' (fun j hj => beq_f (ra_0 h.2 hj))
  have e1 : dI (mu_si H 0 k v) = dI H := by
    funext p i
    unfold dI
    by_cases hx : uo p = true
    · rw [if_pos hx, if_pos hx, mu_i_si, if_neg (fun z => by rw [z.1] at hx; cases hx)]
    · rw [if_neg hx, if_neg hx]
  have e2 : dA (mu_si H 0 k v) = dA H := by
    funext p i
    unfold dA
    by_cases hx : uo p = true ∧ gi_o p i = true
    · rw [if_pos hx, if_pos hx]
      refine Prod.ext rfl (funext fun q => ?_)
      show mu_i (mu_si H 0 k v) (mu_p (mu_r H p i)) q = mu_i H (mu_p (mu_r H p i)) q
      rw [mu_i_si, if_neg (fun z => ?_)]
      have h1 := (h.1.1.o hx.2).2.2
      have h2 := h.1.1.2.1 0 kd hkd
      have h3 := (gi_k_ok hkd).2
      rw [z.1] at h1
      omega
    · rw [if_neg hx, if_neg hx]
  show (ak m (mu_si H 0 k v), dI (mu_si H 0 k v), dA (mu_si H 0 k v), dR H, dL H, dP H) = (ak m H, dI H, dA H, dR H, dL H, dP H)
  rw [c, e1, e2]

/-- PathProver$Prover.explore()V -/
abbrev mu_m364 : ev_M := (1, none, [], ev_b364)
theorem mu_g364 : mu_good mu_m364 := mu_goodk ev_k364
theorem pv_explore {wn T R N fb : Nat} {rx : Nat → Nat} (h : um m H) (e : ud m H = U) (hw : U.2.1 99 12 = nI wn) (hT11 : U.2.1 99 11 = nI T) (hwn : wn = (T + 63) / 64) (hTb : T ≤ 16384) (hN : U.2.1 113 2 = nI N) (hfb : U.2.1 113 8 = nI fb) (hfN : fb ≤ N) (hR : R = N - fb) (hRl : 7 * R ≤ (U.2.2.1 147 10).1) (h10b : (U.2.2.1 147 10).1 ≤ 16777216) (h12 : T ≤ (U.2.2.1 147 12).1) (h12b : (U.2.2.1 147 12).1 ≤ 16777216) (h6 : T ≤ (U.2.2.1 129 6).1) (h6b : (U.2.2.1 129 6).1 ≤ 16777216) (hrx : ∀ s, s < T → (U.2.2.1 129 6).2 s = nI (rx s) ∧ rx s < R) : mu_TV (mu_D (d + 5)) 364 [.inr (.inr (some 158))] H (fun H1 => um m H1 ∧ ur m C H H1 ∧ uq F364 U (ud m H1) ∧ ((ud m H1).2.1 147 14 = 0 ∧ (ud m H1).2.1 147 19 = -1 ∧ (ud m H1).2.2.2.1 147 8 = none ∧ (ud m H1).2.1 158 14 = 1) ∧ (∀ i, i < wn → (ud m H1).2.2.2.2.1 150 i = U.2.2.2.2.1 124 i &&& (U.2.2.2.2.1 125 i ^^^ (-1 : Int64))) ∧ ∃ (X : Ud) (tl : Nat) (qu : Nat → Nat) (hh : Nat), X.2.2.2.2.1 150 = (ud m H1).2.2.2.2.1 150 ∧ (∀ s, s < T → (bts (X.2.2.2.2.1 149) s = true ↔ bts (U.2.2.2.2.1 125) s = true)) ∧ (∀ r, r < R → (X.2.2.1 147 10).2 (r * 7 + 1) = 0) ∧ (∀ j, ¬ j % 7 = 1 → (X.2.2.1 147 10).2 j = (U.2.2.1 147 10).2 j) ∧ (ud m H1).2.1 147 18 = nI tl ∧ tl ≤ T ∧ (∀ i, i < tl → ((ud m H1).2.2.1 147 12).2 i = nI (qu i) ∧ qu i < T ∧ bts (U.2.2.2.2.1 125) (qu i) = true) ∧ (∀ x, x < T → bts (U.2.2.2.2.1 125) x = true → ∃ i, i < tl ∧ qu i = x) ∧ (∀ i j, i < j → j < tl → qu i < qu j) ∧ hh ≤ tl ∧ (ud m H1).2.1 147 17 = nI hh ∧ (∃ c, (ud m H1).2.1 147 16 = nI c ∧ c ≤ wn ∧ ∀ i, i < c → (ud m H1).2.2.2.2.1 150 i = 0) ∧ OPW X (ud m H1) (fun _ => 0) rx qu 0 hh ∧ ((ud m H1).2.1 147 15 = -1 → hh = tl ∨ ∀ i, i < wn → (ud m H1).2.2.2.2.1 150 i = 0) ∧ ((ud m H1).2.1 147 15 = -1 → ∀ s, s < 16384 → (bts ((ud m H1).2.2.2.2.1 149) s = true ↔ bts (X.2.2.2.2.1 149) s = true ∨ ∃ i, i < tl ∧ qu i = s)) ∧ (¬ (ud m H1).2.1 147 15 = -1 → (ud m H1).2.2.2.2.1 149 = X.2.2.2.2.1 149)) := by
  refine mu_meth (M := mu_m364) rfl rfl ?_
  refine mw_ht (mu_fn_of (show [0].Nodup by decide)) ?_
  refine mw_go mu_g364 (k := 3) (f1 := (5, [(0, .inr (.inr (some 158)))], [], (mu_si H 158 14 (1 : Int32)))) (C := [mu_is H (some 158) 8]) rfl (show mu_is H (some 158) 8 from (h.1.1.is rfl)) ?_
  obtain ⟨u1, r1, d1⟩ : um m (mu_si H 158 14 (1 : Int32)) ∧ ur m C H (mu_si H 158 14 (1 : Int32)) ∧ ud m (mu_si H 158 14 (1 : Int32)) = (upI U 158 14 (1 : Int32)) := h.sI (C := C) e rfl
  generalize (mu_si H 158 14 (1 : Int32)) = Q1 at u1 r1 d1 ⊢
  have qf1 : uq F364 U (upI U 158 14 (1 : Int32)) := (uq.refl F364 U).I rfl
  have ht1 : ur m C H Q1 := (ur.refl m C H).trans r1
  refine mw_go mu_g364 (k := 2) (f1 := (9, [(0, .inr (.inr (some 158)))], [.inr (.inr (mu_r Q1 158 1))], Q1)) (C := [mu_is Q1 (some 158) 8]) rfl (show mu_is Q1 (some 158) 8 from (u1.1.1.is rfl)) ?_
  rw [(u1.1.1.r (p := 158) (j := 1) (q := 147) rfl)]
  refine mw_cV (fun _ => rfl) (show mu_is Q1 (some 147) 2 from (u1.1.1.is rfl)) (gr_explore (d := d) (C := C) u1 d1 ((show ((upI U 158 14 (1 : Int32)).2.1 99 12) = (U.2.1 99 12) from rfl).trans hw) ((show ((upI U 158 14 (1 : Int32)).2.1 99 11) = (U.2.1 99 11) from rfl).trans hT11) hwn hTb ((show ((upI U 158 14 (1 : Int32)).2.1 113 2) = (U.2.1 113 2) from rfl).trans hN) ((show ((upI U 158 14 (1 : Int32)).2.1 113 8) = (U.2.1 113 8) from rfl).trans hfb) hfN hR (by rw [(show ((upI U 158 14 (1 : Int32)).2.2.1 147 10).1 = (U.2.2.1 147 10).1 from rfl)]; exact hRl) (by rw [(show ((upI U 158 14 (1 : Int32)).2.2.1 147 10).1 = (U.2.2.1 147 10).1 from rfl)]; exact h10b) (by rw [(show ((upI U 158 14 (1 : Int32)).2.2.1 147 12).1 = (U.2.2.1 147 12).1 from rfl)]; exact h12) (by rw [(show ((upI U 158 14 (1 : Int32)).2.2.1 147 12).1 = (U.2.2.1 147 12).1 from rfl)]; exact h12b) (by rw [(show ((upI U 158 14 (1 : Int32)).2.2.1 129 6).1 = (U.2.2.1 129 6).1 from rfl)]; exact h6) (by rw [(show ((upI U 158 14 (1 : Int32)).2.2.1 129 6).1 = (U.2.2.1 129 6).1 from rfl)]; exact h6b) (by rw [(show ((upI U 158 14 (1 : Int32)).2.2.1 129 6) = (U.2.2.1 129 6) from rfl)]; exact hrx)) (fun Q2 q2 => ?_)
  obtain ⟨u2, r2, z2, hres⟩ := q2
  have ht2 : ur m C H Q2 := ht1.trans r2
  obtain ⟨V2, d2⟩ : ∃ V, ud m Q2 = V := ⟨_, rfl⟩
  rw [d2] at z2 hres
  have qf2 : uq F364 U V2 := qf1.tr z2 rfl
  refine mw_of (fun _ => mu_ret rfl trivial ⟨Q2, rfl, u2, ht2, (by rw [d2]; exact qf2), ?_⟩)
  rw [d2]
  exact ⟨⟨hres.1.1, hres.1.2.1, hres.1.2.2, (z2.i 158 14 rfl).trans (show (upI U 158 14 (1 : Int32)).2.1 158 14 = 1 from rfl)⟩, hres.2⟩
/-- the sets of FAIRNESS stand in the store as know left them -/
def FRO (V : Ud) (m : Nat) (U : Ud) (Y : Ts) (P : Nat) (f od : Nat → Nat) (es : Nat → Int32) (N : Nat) (O1 : Nat → (Nat → Bool) × Bool) : Prop := ∃ (kN : Nat) (Xk : Ud) (kS : Nat → Nat → Bool) (kp : Nat → Bool), KNWw m U Xk Y P f od es ∧ (V.2.1 99 19 = nI kN ∧ V.1 16 = Xk.1 16 ∧ V.2.2.2.2.1 124 = Xk.2.2.2.2.1 124 ∧ V.2.2.2.2.1 125 = Xk.2.2.2.2.1 125) ∧ kN ≤ N ∧ (∀ j, j < kN → O1 j = (kS j, kp j)) ∧ (∀ fr, fr < (Y 16).1 → ∃ id, id < kN ∧ (Xk.1 16).2 fr 3 = nI id ∧ kp id = true ∧ ∀ s, kS id s = true ↔ (s < pd f 0 P ∧ EVR Y U f P od s ∧ FRv Y U f P od fr s)) ∧ ∀ id, id < kN → ∃ fr, fr < (Y 16).1 ∧ (Xk.1 16).2 fr 3 = nI id
theorem lwh_le {w L : Nat} (h : lwh w L) : L ≤ 64 + w * 16388 := by
  unfold lwh at h
  rcases h with h | h | h | h
  · omega
  · rw [h]; have : w * 64 ≤ w * 16388 := Nat.mul_le_mul_left w (by decide); omega
  · rw [h]; have : w * 1028 ≤ w * 16388 := Nat.mul_le_mul_left w (by decide); omega
  · omega
def F383a : Uf := ⟨[23, 21, 22, 24, 25, 27], [(100, 4), (100, 5), (100, 6), (100, 7), (100, 17), (100, 18), (100, 21), (100, 19), (100, 20), (100, 14), (100, 16), (113, 1), (113, 2), (129, 11), (129, 19), (129, 20), (129, 5), (129, 22)], [(100, 3), (100, 8), (100, 12), (100, 13), (100, 15), (129, 14), (100, 9), (100, 10), (100, 11), (113, 3), (113, 4), (129, 10), (129, 4), (99, 18)], [(100, 3), (100, 8), (100, 12), (100, 13), (100, 15), (113, 3), (129, 4)], [117, 146, 127, 126, 145], true⟩
def F383b : Uf := ⟨[22, 24, 21], [(129, 11), (129, 19), (129, 20), (129, 21), (100, 4), (100, 5), (100, 6), (100, 7), (100, 17), (100, 18), (100, 21), (100, 19), (100, 20), (100, 14), (100, 16), (113, 1), (113, 2)], [(129, 6), (129, 16), (129, 13), (129, 12), (100, 3), (100, 8), (100, 12), (100, 13), (100, 15), (100, 9), (100, 10), (100, 11), (129, 10), (113, 3), (113, 4), (129, 8)], [(100, 3), (100, 8), (100, 12), (100, 13), (100, 15), (113, 3)], [126, 146, 117], true⟩
/-- PathProver.ready()V -/
abbrev mu_m383 : ev_M := (2, none, [], ev_b383)
theorem mu_g383 : mu_good mu_m383 := mu_goodk ev_k383
theorem pv_ready (hH0 : um m H0) (hH : mu_si H0 0 12 (1 : Int32) = H) (h : um m H) (e : ud m H = U) (h012 : mu_i H0 0 12 = 0) (hK : KNV m U Y P f od es) (hM : MCS U) (hL : MLW U Y P f od) (hWM : WDM U Y P) (hkn : U.2.1 99 13 = 0) (hst : 1 ≤ (U.2.2.1 113 3).1 ∧ (U.2.2.1 113 3).1 ≤ 1048576) (hch : ∀ c, c < 184 → U.2.2.2.2.2 114 c = none ∨ ∃ f, U.2.2.2.2.2 114 c = some (8192, f)) (hBZ : BZ U bf bt) (hVD : VDF U P f) (hOL : OLN (U.2.2.1 129 4).1) (hw6 : lwh 1 (U.2.2.1 129 6).1) (hw7 : lwh 1 (U.2.2.1 129 7).1) (hw10 : lwh 1 (U.2.2.1 129 10).1) (hw8 : lwh 2 (U.2.2.1 129 8).1) (hw9 : (U.2.2.1 129 9).1 = 64 ∨ (U.2.2.1 129 9).1 = 2048 ∨ (U.2.2.1 129 9).1 = 32768) (hw12 : lwh 1 (U.2.2.1 129 12).1) (hg10 : lwh 7 (U.2.2.1 147 10).1) (hg11 : lwh 1 (U.2.2.1 147 11).1) (hg12 : lwh 1 (U.2.2.1 147 12).1) (hg13 : lwh 1 (U.2.2.1 147 13).1) (hC18 : 4 * 14001 + 2 ≤ C 18) (hC18b : C 18 ≤ 8388608) (hC21 : 2 * (((Y 13).1 + 2) * 4) + 4 ≤ C 21) (hC21b : C 21 ≤ 8388608) (hC23 : 200000 ≤ C 23) (hC23b : C 23 ≤ 8388608) (hC24 : 200000 ≤ C 24) (hC24b : C 24 ≤ 8388608) (hC25 : 170000 ≤ C 25) (hC25b : C 25 ≤ 8388608) (hC27 : 141000 ≤ C 27) (hC27b : C 27 ≤ 8388608) : mu_TV (mu_D (d + 21)) 383 [.inr (.inr (some 0))] H0 (fun H1 => um m H1 ∧ ur m C H H1 ∧ uq F383 U (ud m H1) ∧ ∃ (Xt Xr XV : Ud) (N N5 : Nat) (ro5 : Nat → Nat) (GX : Nat → Nat → Prop), (GX = fun s u => EVR Y U f P od s ∧ GOR Y Xt f P od s u) ∧ (∃ nf nm tm bs lv oid nw wa wn wi wk nb bo cl A GW O1, (∀ s u, s < pd f 0 P → u < pd f 0 P → (GW s u ↔ GX s u)) ∧ (∃ us S z p, (∀ j, j < N → (S j, p j) = O1 j) ∧ RDX Xr m od Y es P f N (pd f 0 P) GW N5 us S z p nf nm tm bs lv (lcz tm lv P) oid nw wa wn wi wk nb bo cl A ro5) ∧ FRO Xr m U Y P f od es N O1) ∧ (uq F337 Xr XV ∧ uq F364 XV (ud m H1)) ∧ (7 * (pd f 0 P + 4) ≤ (XV.2.2.1 147 10).1 ∧ lwh 7 (XV.2.2.1 147 10).1 ∧ 1 * (pd f 0 P + 4) ≤ (XV.2.2.1 147 11).1 ∧ lwh 1 (XV.2.2.1 147 11).1 ∧ 1 * (pd f 0 P + 4) ≤ (XV.2.2.1 147 12).1 ∧ lwh 1 (XV.2.2.1 147 12).1 ∧ 1 * (pd f 0 P + 4) ≤ (XV.2.2.1 147 13).1 ∧ lwh 1 (XV.2.2.1 147 13).1) ∧ ((∀ r, r < N5 - N + 1 → (XV.2.2.1 147 10).2 (r * 7 + 0) = nI (pzz ro5 r (pd f 0 P))) ∧ ∀ s, s < pd f 0 P → (XV.2.2.1 147 11).2 (psz ro5 (pd f 0 P) s) = nI s) ∧ ((ud m H1).2.1 147 14 = 0 ∧ (ud m H1).2.1 147 19 = -1 ∧ (ud m H1).2.2.2.1 147 8 = none ∧ (ud m H1).2.1 158 14 = 1) ∧ (∀ i, i < ((pd f 0 P + 63) / 64) → (ud m H1).2.2.2.2.1 150 i = XV.2.2.2.2.1 124 i &&& (XV.2.2.2.2.1 125 i ^^^ (-1 : Int64))) ∧ ∃ (X : Ud) (tl : Nat) (qu : Nat → Nat) (hh : Nat), X.2.2.2.2.1 150 = (ud m H1).2.2.2.2.1 150 ∧ (∀ s, s < (pd f 0 P) → (bts (X.2.2.2.2.1 149) s = true ↔ bts (XV.2.2.2.2.1 125) s = true)) ∧ (∀ r, r < (N5 - N) → (X.2.2.1 147 10).2 (r * 7 + 1) = 0) ∧ (∀ j, ¬ j % 7 = 1 → (X.2.2.1 147 10).2 j = (XV.2.2.1 147 10).2 j) ∧ (ud m H1).2.1 147 18 = nI tl ∧ tl ≤ (pd f 0 P) ∧ (∀ i, i < tl → ((ud m H1).2.2.1 147 12).2 i = nI (qu i) ∧ qu i < (pd f 0 P) ∧ bts (XV.2.2.2.2.1 125) (qu i) = true) ∧ (∀ x, x < (pd f 0 P) → bts (XV.2.2.2.2.1 125) x = true → ∃ i, i < tl ∧ qu i = x) ∧ (∀ i j, i < j → j < tl → qu i < qu j) ∧ hh ≤ tl ∧ (ud m H1).2.1 147 17 = nI hh ∧ (∃ c, (ud m H1).2.1 147 16 = nI c ∧ c ≤ ((pd f 0 P + 63) / 64) ∧ ∀ i, i < c → (ud m H1).2.2.2.2.1 150 i = 0) ∧ OPW X (ud m H1) (fun _ => 0) ro5 qu 0 hh ∧ ((ud m H1).2.1 147 15 = -1 → hh = tl ∨ ∀ i, i < ((pd f 0 P + 63) / 64) → (ud m H1).2.2.2.2.1 150 i = 0) ∧ ((ud m H1).2.1 147 15 = -1 → ∀ s, s < 16384 → (bts ((ud m H1).2.2.2.2.1 149) s = true ↔ bts (X.2.2.2.2.1 149) s = true ∨ ∃ i, i < tl ∧ qu i = s)) ∧ (¬ (ud m H1).2.1 147 15 = -1 → (ud m H1).2.2.2.2.1 149 = X.2.2.2.2.1 149)) := by
  have hD : MDL Y es := hK.2.2.2.1
  obtain ⟨hb13, hb0, hb15, hb16, hb17⟩ := hD.2.2.2.1
  have hpd : pd f 0 P ≤ 16384 := hK.1.2.2.2.1.2.1
  have hsm : sm f 0 P ≤ 16384 := hK.1.2.2.2.1.2.2
  have hP14 : P ≤ 14 := hK.P14
  have hT11 : U.2.1 99 11 = nI (pd f 0 P) := hK.1.1.2.2.1
  refine mu_meth (M := mu_m383) rfl rfl ?_
  refine mw_ht (mu_fn_of (show [0].Nodup by decide)) ?_
  refine mw_go mu_g383 (k := 2) (f1 := (4, [(0, .inr (.inr (some 0)))], [.inl (mu_i H0 0 12)], H0)) (C := [mu_is H0 (some 0) 0]) rfl (show mu_is H0 (some 0) 0 from (hH0.1.1.is rfl)) ?_
  refine mw_if (P := (mu_i H0 0 12) = 0) (a := 8) (b := 7) (fun _ => rfl) trivial (fun h1 => ?_) (fun h1 => absurd h012 h1)
  refine mw_go mu_g383 (k := 3) (f1 := (13, [(0, .inr (.inr (some 0)))], [], (mu_si H0 0 12 (1 : Int32)))) (C := [mu_is H0 (some 0) 0, (1 : Int32) = 0 ∨ (1 : Int32) = 1]) rfl (show (mu_is H0 (some 0) 0) ∧ ((1 : Int32) = 0 ∨ (1 : Int32) = 1) from ⟨(hH0.1.1.is rfl), Or.inr rfl⟩) ?_
  rw [hH]
  refine mw_go mu_g383 (k := 2) (f1 := (17, [(0, .inr (.inr (some 0)))], [.inr (.inr (mu_r H 0 8))], H)) (C := [mu_is H (some 0) 0]) rfl (show mu_is H (some 0) 0 from (h.1.1.is rfl)) ?_
  rw [(h.1.1.r (p := 0) (j := 8) (q := 99) rfl)]
  refine mw_cV (fun _ => rfl) (show mu_is H (some 99) 13 from (h.1.1.is rfl)) (sp_knowq (d := (d + 12)) (C := C) h e hK (mcs_eq hM (show (U.1 22) = (U.1 22) from rfl) (show (U.2.2.1 100 3).1 = (U.2.2.1 100 3).1 from rfl) (show (U.2.2.1 100 8).1 = (U.2.2.1 100 8).1 from rfl) (show (U.2.2.1 100 12).1 = (U.2.2.1 100 12).1 from rfl) (show (U.2.2.1 100 13).1 = (U.2.2.1 100 13).1 from rfl) (show (U.2.2.1 100 15).1 = (U.2.2.1 100 15).1 from rfl)) (mlw_eq hL (show (U.1 21) = (U.1 21) from rfl) (show (U.1 22) = (U.1 22) from rfl) (show (U.1 15) = (U.1 15) from rfl) (show (U.2.2.1 100 3) = (U.2.2.1 100 3) from rfl) (show (U.2.1 100 5) = (U.2.1 100 5) from rfl) (show (U.2.1 100 7) = (U.2.1 100 7) from rfl) (show (U.2.1 100 17) = (U.2.1 100 17) from rfl) (show (U.2.1 100 4) = (U.2.1 100 4) from rfl) (show (U.2.2.1 100 8) = (U.2.2.1 100 8) from rfl) (show (U.2.2.1 100 12).1 = (U.2.2.1 100 12).1 from rfl) (show (U.2.2.1 100 13).1 = (U.2.2.1 100 13).1 from rfl) (show (U.2.2.1 100 15).1 = (U.2.2.1 100 15).1 from rfl) (show (U.2.2.1 99 8) = (U.2.2.1 99 8) from rfl)) (hWM.same (show (U.1 21) = (U.1 21) from rfl) (show (U.2.1 100 6) = (U.2.1 100 6) from rfl) (show (U.1 15) = (U.1 15) from rfl) (show (U.2.1 100 4) = (U.2.1 100 4) from rfl)) ((show (U.2.1 99 13) = (U.2.1 99 13) from rfl).trans hkn) (by rw [(show (U.2.2.1 113 3).1 = (U.2.2.1 113 3).1 from rfl)]; exact hst) hch hC21 hC21b hC23 hC23b) (fun Q2 q2 => ?_)
  obtain ⟨u2, r2, z2, hKW, hWM1⟩ := q2
  have ht2 : ur m C H Q2 := (ur.refl m C H).trans r2
  obtain ⟨V2, d2⟩ : ∃ V, ud m Q2 = V := ⟨_, rfl⟩
  rw [d2] at z2 hKW hWM1
  have qf2 : uq F383 U V2 := (uq.refl F383 U).tr z2 rfl
  obtain ⟨kN, kus, kS, kz, kp, hSK, hk19, hkN, hkus, hkfr⟩ := hKW.2.2.2.2.1
  obtain ⟨kk, hkk, hM5, -⟩ := hSK.2.2.2.1
  have hkkb : 2 ^ kk ≤ 2 ^ 12 := Nat.pow_le_pow_right (by decide) hkk
  have hkk1 : 2 ^ kk - 1 < 4096 := by omega
  refine mw_go mu_g383 (k := 2) (f1 := (24, [(0, .inr (.inr (some 0)))], [.inr (.inr (mu_r Q2 0 9))], Q2)) (C := [mu_is Q2 (some 0) 0]) rfl (show mu_is Q2 (some 0) 0 from (u2.1.1.is rfl)) ?_
  rw [(u2.1.1.r (p := 0) (j := 9) (q := 129) rfl)]
  refine mw_cV (fun _ => rfl) (show mu_is Q2 (some 129) 9 from (u2.1.1.is rfl)) (rl_begin (d := (d + 16)) (C := C) (M := 2 ^ kk - 1) u2 d2 hKW.1.1 hSK hM5 hkk1 (by omega) hC27b (by rw [(show (V2.2.2.1 129 6).1 = (U.2.2.1 129 6).1 from (z2.n 129 6 rfl))]; exact hw6) (by rw [(show (V2.2.2.1 129 7).1 = (U.2.2.1 129 7).1 from (z2.n 129 7 rfl))]; exact hw7) (by rw [(show (V2.2.2.1 129 10).1 = (U.2.2.1 129 10).1 from (z2.n 129 10 rfl))]; exact hw10) (by rw [(show (V2.2.2.1 129 8).1 = (U.2.2.1 129 8).1 from (z2.n 129 8 rfl))]; exact hw8) (by rw [(show (V2.2.2.1 129 9).1 = (U.2.2.1 129 9).1 from (z2.n 129 9 rfl))]; exact hw9) (by rw [(show (V2.2.2.1 129 12).1 = (U.2.2.1 129 12).1 from (z2.n 129 12 rfl))]; exact hw12)) (fun Q3 q3 => ?_)
  obtain ⟨u3, r3, z3, hb24, ⟨hb5, hb21, hb22⟩, ⟨hbS, hbF, hb7, hb8⟩, ⟨hl6, hm6, hl7, hm7, hl10, hm10, hl8, hm8, hl12, hm12⟩, ⟨hbk, hbk9⟩, hb145, hb7c⟩ := q3
  have ht3 : ur m C H Q3 := ht2.trans r3
  obtain ⟨V3, d3⟩ : ∃ V, ud m Q3 = V := ⟨_, rfl⟩
  rw [d3] at z3 hb24 hb5 hb21 hb22 hbS hbF hb7 hb8 hl6 hm6 hl7 hm7 hl10 hm10 hl8 hm8 hl12 hm12 hbk hbk9 hb145 hb7c
  have qf3 : uq F383 U V3 := qf2.tr z3 rfl
  obtain ⟨hRS, hRG0⟩ := rd_begin hKW hWM1 (bz_eq hBZ (show (V2.2.1 129 19) = (U.2.1 129 19) from (z2.i 129 19 rfl)) (show (V2.2.1 129 20) = (U.2.1 129 20) from (z2.i 129 20 rfl)) (show (V2.2.2.2.2.1 146) = (U.2.2.2.2.1 146) from (z2.l 146 rfl))) (vdf_same hVD (show (V2.2.1 99 9) = (U.2.1 99 9) from (z2.i 99 9 rfl)) (show (V2.2.2.1 99 8) = (U.2.2.1 99 8) from (z2.a 99 8 rfl))) (by rw [(show (V2.2.2.1 129 4).1 = (U.2.2.1 129 4).1 from (z2.n 129 4 rfl))]; exact hOL) z3 hb24 hb5 hbS hb7 ⟨hl10, hm10⟩ hb145
  obtain ⟨kb, hkb1, hkb2, hkb3⟩ := hbk
  have hn6 := lwh_le hm6
  have hn7 := lwh_le hm7
  have hn10 := lwh_le hm10
  have hn8 := lwh_le hm8
  have hn12 := lwh_le hm12
  refine mw_go mu_g383 (k := 2) (f1 := (31, [(0, .inr (.inr (some 0)))], [.inr (.inr (mu_r Q3 0 9))], Q3)) (C := [mu_is Q3 (some 0) 0]) rfl (show mu_is Q3 (some 0) 0 from (u3.1.1.is rfl)) ?_
  rw [(u3.1.1.r (p := 0) (j := 9) (q := 129) rfl)]
  refine mw_cV (fun _ => rfl) (show mu_is Q3 (some 129) 9 from (u3.1.1.is rfl)) (rl_takeLines (d := (d + 11)) (C := C) u3 d3 hRS hRG0 (by omega) (by omega) hC21 hC21b (by omega) hC23b (by omega) hC24b (by omega) hC25b) (fun Q4 q4 => ?_)
  obtain ⟨u4, r4, z4, hRS1, G1, hRG1, hsz1, hPC1, hGm1⟩ := q4
  have ht4 : ur m C H Q4 := ht3.trans r4
  obtain ⟨V4, d4⟩ : ∃ V, ud m Q4 = V := ⟨_, rfl⟩
  rw [d4] at z4 hRS1 hRG1 hsz1 hPC1 hGm1
  have qf4 : uq F383 U V4 := qf3.tr z4 rfl
  obtain ⟨GX, hGX⟩ : ∃ GX : Nat → Nat → Prop, GX = fun s u => EVR Y U f P od s ∧ GOR Y V3 f P od s u := ⟨_, rfl⟩
  have hGm : ∀ s u, s < pd f 0 P → u < pd f 0 P → ((G1 0 s u ∧ PND Y V3 f P od (V4.1 23) s u) ↔ GX s u) := by rw [hGX]; exact hGm1
  refine mw_go mu_g383 (k := 2) (f1 := (36, [(1, .inl (0 : Int32)), (0, .inr (.inr (some 0)))], [], Q4)) (C := []) rfl trivial ?_
  show mu_W _ _ (36, [(1, .inl (nI 0)), (0, .inr (.inr (some 0)))], [], Q4) _
  refine mw_sub (L' := [(1, .inl (nI 0)), (0, .inr (.inr (some 0)))]) (by simp) ?_
  refine mw_down (α := Nat × mu_H) (fun zs => (36, [(1, .inl (nI zs.1)), (0, .inr (.inr (some 0)))], [], zs.2)) (fun zs => 65536 - zs.1) (fun zs => um m zs.2 ∧ ur m C H zs.2 ∧ (uq F383a V4 (ud m zs.2)) ∧ (RSK m (ud m zs.2) Y P f od es) ∧ (RJ (ud m zs.2) V3 Y es P f od kN (fun j => (kS j, kp j)) kus GX zs.1)) (fun zs hza iha => ?_) (0, Q4) ⟨u4, ht4, (show uq F383a V4 (ud m Q4) from by rw [d4]; exact uq.refl _ _), (show RSK m (ud m Q4) Y P f od es from by rw [d4]; exact hRS1), (show RJ (ud m Q4) V3 Y es P f od kN (fun j => (kS j, kp j)) kus GX 0 from by rw [d4]; exact (Or.inl ⟨rfl, G1, hRG1, ⟨hsz1, hPC1⟩, hGm⟩))⟩
  obtain ⟨i, Hsa⟩ := zs
  obtain ⟨ua, hta, da, hRSa, hJ⟩ := hza
  have ua : um m Hsa := ua
  have hta : ur m C H Hsa := hta
  have zza : uq F383a V4 (ud m Hsa) := da
  have hRSa : RSK m (ud m Hsa) Y P f od es := hRSa
  have hJ : RJ (ud m Hsa) V3 Y es P f od kN (fun j => (kS j, kp j)) kus GX i := hJ
  obtain ⟨Va, da⟩ : ∃ V, ud m Hsa = V := ⟨_, rfl⟩
  rw [da] at zza hRSa hJ
  have qfa : uq F383 U Va := qf4.tr zza rfl
  show mu_W _ _ (36, [(1, .inl (nI i)), (0, .inr (.inr (some 0)))], [], Hsa) _
  have hile := hJ.le
  refine mw_go mu_g383 (k := 2) (f1 := (39, [(1, .inl (nI i)), (0, .inr (.inr (some 0)))], [.inl (65536 : Int32), .inl (nI i)], Hsa)) (C := []) rfl trivial ?_
  refine mw_if (P := (nI i) < (65536 : Int32)) (a := 42) (b := 83) (fun _ => rfl) trivial (fun h5 => ?_) (fun h5 => absurd (show nI i < nI 65536 from (nI_ltI (by omega) (by omega)).mpr (by omega)) h5)
  rcases id hJ with ⟨hi0, Ga, hRG0a, ⟨hsz0, hPC0⟩, hG0a⟩ | ⟨hi0, Ga, hRG1a, hG1a⟩ | ⟨nb, bo, q, ba, bn, bi, n0, pa, pn, cn, Ga, GF, ⟨hi0, hnb⟩, hRGa, hBa, ⟨hcn, hcb⟩, hGa⟩
  · -- 0
    refine mw_go mu_g383 (k := 1) (f1 := (43, [(1, .inl (nI i)), (0, .inr (.inr (some 0)))], [.inl (nI i)], Hsa)) (C := []) rfl trivial ?_
    refine mw_if (P := (nI i) = 0) (a := 56) (b := 46) (fun _ => rfl) trivial (fun h6 => ?_) (fun h6 => absurd (by rw [hi0]; rfl) h6)
    refine mw_go mu_g383 (k := 2) (f1 := (60, [(1, .inl (nI i)), (0, .inr (.inr (some 0)))], [.inr (.inr (mu_r Hsa 0 9))], Hsa)) (C := [mu_is Hsa (some 0) 0]) rfl (show mu_is Hsa (some 0) 0 from (ua.1.1.is rfl)) ?_
    rw [(ua.1.1.r (p := 0) (j := 9) (q := 129) rfl)]
    refine mw_cV (fun _ => rfl) (show mu_is Hsa (some 129) 9 from (ua.1.1.is rfl)) (rl_split (d := (d + 14)) (C := C) ua da hRSa hPC0 (by omega) (by omega) hC23b) (fun Q7 q7 => ?_)
    obtain ⟨u7, r7, z7, hszs, hPCs, hPNs⟩ := q7
    have ht7 : ur m C H Q7 := hta.trans r7
    obtain ⟨V7, d7⟩ : ∃ V, ud m Q7 = V := ⟨_, rfl⟩
    rw [d7] at z7 hszs hPCs hPNs
    have qf7 : uq F383 U V7 := qfa.tr z7 rfl
    have hRSs := RSK.q hRSa z7 rfl rfl
    have hRGs := RLG.q hRG0a z7 rfl rfl
    have hszs2 : (V7.1 23).1 ≤ 4001 := Nat.le_trans hszs (Nat.max_le.mpr ⟨by omega, by omega⟩)
    refine mw_go mu_g383 (k := 2) (f1 := (67, [(1, .inl (nI i)), (0, .inr (.inr (some 0)))], [.inr (.inr (mu_r Q7 0 9))], Q7)) (C := [mu_is Q7 (some 0) 0]) rfl (show mu_is Q7 (some 0) 0 from (u7.1.1.is rfl)) ?_
    rw [(u7.1.1.r (p := 0) (j := 9) (q := 129) rfl)]
    refine mw_cV (fun _ => rfl) (show mu_is Q7 (some 129) 9 from (u7.1.1.is rfl)) (rl_equals (d := (d + 11)) (C := C) u7 d7 hRSs hRGs hPCs (by omega) (by omega) (by omega) (by omega) hC21 hC21b hC24 hC24b hC25 hC25b) (fun Q8 q8 => ?_)
    obtain ⟨u8, r8, z8, hRSe, hsze, hPCe, Ge, hRGe, hGe⟩ := q8
    have ht8 : ur m C H Q8 := ht7.trans r8
    obtain ⟨V8, d8⟩ : ∃ V, ud m Q8 = V := ⟨_, rfl⟩
    rw [d8] at z8 hRSe hsze hPCe hRGe hGe
    have qf8 : uq F383 U V8 := qf7.tr z8 rfl
    refine mw_go mu_g383 (k := 2) (f1 := (74, [(1, .inl (nI i)), (0, .inr (.inr (some 0)))], [.inr (.inr (mu_r Q8 0 9))], Q8)) (C := [mu_is Q8 (some 0) 0]) rfl (show mu_is Q8 (some 0) 0 from (u8.1.1.is rfl)) ?_
    rw [(u8.1.1.r (p := 0) (j := 9) (q := 129) rfl)]
    refine mw_cV (fun _ => rfl) (show mu_is Q8 (some 129) 9 from (u8.1.1.is rfl)) (rl_pieces (d := (d + 11)) (C := C) u8 d8 hRSe hRGe hPCe (by omega) (by omega) (by omega) (by omega) hC21 hC21b hC24 hC24b hC25 hC25b) (fun Q9 q9 => ?_)
    obtain ⟨u9, r9, z9, hRSp, h27p, Gp, hRGp, hGp⟩ := q9
    have ht9 : ur m C H Q9 := ht8.trans r9
    obtain ⟨V9, d9⟩ : ∃ V, ud m Q9 = V := ⟨_, rfl⟩
    rw [d9] at z9 hRSp h27p hRGp
    have qf9 : uq F383 U V9 := qf8.tr z9 rfl
    refine mw_go mu_g383 (k := 1) (f1 := (80, [(1, .inl ((nI i) + 1)), (0, .inr (.inr (some 0)))], [], Q9)) (C := []) rfl trivial ?_
    rw [(show ((nI i) + 1) = (nI (i + 1)) from (nI_add i 1))]
    refine mw_go mu_g383 (k := 1) (f1 := (36, [(1, .inl (nI (i + 1))), (0, .inr (.inr (some 0)))], [], Q9)) (C := []) rfl trivial ?_
    exact mw_sub (by simp) (iha (i + 1, Q9) ⟨u9, ht9, (show uq F383a V4 (ud m Q9) from by rw [d9]; exact (((zza.tr z7 rfl).tr z8 rfl).tr z9 rfl)), (show RSK m (ud m Q9) Y P f od es from by rw [d9]; exact hRSp), (show RJ (ud m Q9) V3 Y es P f od kN (fun j => (kS j, kp j)) kus GX (i + 1) from by rw [d9]; exact (by rw [show i + 1 = 1 by omega]; exact RJ.first (t1 := V7.1 23) (t2 := V8.1 23) ⟨(show (Va.1 15) = (V3.1 15) from ((zza.t 15 rfl).trans (z4.t 15 rfl))), (show (Va.2.2.1 99 8) = (V3.2.2.1 99 8) from ((zza.a 99 8 rfl).trans (z4.a 99 8 rfl)))⟩ ⟨(show (V7.1 15) = (Va.1 15) from (z7.t 15 rfl)), (show (V7.2.2.1 99 8) = (Va.2.2.1 99 8) from (z7.a 99 8 rfl))⟩ ⟨(show (V8.1 15) = (V7.1 15) from (z8.t 15 rfl)), (show (V8.2.2.1 99 8) = (V7.2.2.1 99 8) from (z8.a 99 8 rfl))⟩ hG0a hPNs hGe hGp hRGp (by omega)))⟩ (by show 65536 - (i + 1) < 65536 - i; omega))
  · -- 1
    refine mw_go mu_g383 (k := 1) (f1 := (43, [(1, .inl (nI i)), (0, .inr (.inr (some 0)))], [.inl (nI i)], Hsa)) (C := []) rfl trivial ?_
    refine mw_if (P := (nI i) = 0) (a := 56) (b := 46) (fun _ => rfl) trivial (fun h10 => absurd h10 (fun y => by have y2 := (nI_eq (a := i) (b := 0) (by omega) (by omega)).mp (show nI i = nI 0 from y); omega)) (fun h10 => ?_)
    refine mw_go mu_g383 (k := 2) (f1 := (50, [(1, .inl (nI i)), (0, .inr (.inr (some 0)))], [.inr (.inr (mu_r Hsa 0 9))], Hsa)) (C := [mu_is Hsa (some 0) 0]) rfl (show mu_is Hsa (some 0) 0 from (ua.1.1.is rfl)) ?_
    rw [(ua.1.1.r (p := 0) (j := 9) (q := 129) rfl)]
    refine mw_cI (fun _ => rfl) (show mu_is Hsa (some 129) 9 from (ua.1.1.is rfl)) (rl_open1 (d := (d + 14)) (C := C) ua da hRSa hRG1a (by omega) hC23b (by omega) hC27b) (fun x11 Q11 q11 => ?_)
    rcases q11 with ⟨u11, r11, z11, hRSo, ⟨rfl, hRo, ho22⟩ | ⟨rfl, bo1, q, ba, bn, bi, n0, pa, pn, Go, cn1, hcn1, hRo, hszo, hPCo, hBo⟩⟩
    · -- (0 : Int32)
      have ht11 : ur m C H Q11 := hta.trans r11
      obtain ⟨V11, d11⟩ : ∃ V, ud m Q11 = V := ⟨_, rfl⟩
      rw [d11] at z11 hRSo hRo ho22
      have qf11 : uq F383 U V11 := qfa.tr z11 rfl
      refine mw_if (P := (0 : Int32) = 0) (a := 83) (b := 56) (fun _ => rfl) trivial (fun h12 => ?_) (fun h12 => absurd (by decide) h12)
      refine mw_go mu_g383 (k := 2) (f1 := (87, [(1, .inl (nI i)), (0, .inr (.inr (some 0)))], [.inr (.inr (mu_r Q11 0 9))], Q11)) (C := [mu_is Q11 (some 0) 0]) rfl (show mu_is Q11 (some 0) 0 from (u11.1.1.is rfl)) ?_
      rw [(u11.1.1.r (p := 0) (j := 9) (q := 129) rfl)]
      refine mw_cV (fun _ => rfl) (show mu_is Q11 (some 129) 9 from (u11.1.1.is rfl)) ((rl_weigh0 (d := (d + 17)) (C := C) u11 d11 ho22).imp (fun H1 qx => (show um m H1 ∧ ur m C Q11 H1 ∧ uq F397 V11 (ud m H1) ∧ RSK m (ud m H1) Y P f od es ∧ RLF (ud m H1) Y es P f od kN (fun j => (kS j, kp j)) kus (Ga 0) from ⟨qx.1, qx.2.1, by rw [qx.2.2]; exact uq.refl F397 _, by rw [qx.2.2]; exact hRSo, by rw [qx.2.2]; exact RLG.one hRo (by omega)⟩))) (fun Q13 q13 => ?_)
      obtain ⟨u13, r13, z13, hRSw, hRFw⟩ := q13
      have ht13 : ur m C H Q13 := ht11.trans r13
      obtain ⟨V13, d13⟩ : ∃ V, ud m Q13 = V := ⟨_, rfl⟩
      rw [d13] at z13 hRSw hRFw
      have qf13 : uq F383 U V13 := qf11.tr z13 rfl
      have hGw : ∀ s u, s < pd f 0 P → u < pd f 0 P → (Ga 0 s u ↔ GX s u) := hG1a
      obtain ⟨GW, hGW⟩ : ∃ GW : Nat → Nat → Prop, GW = Ga 0 := ⟨_, rfl⟩
      rw [← hGW] at hRFw hGw
      obtain ⟨A, nb, bo, N, us, S, z, p, nf, nm, tm, bs, lv, oid, nw, wa, wn, wi, wk, hRP⟩ := hRFw
      obtain ⟨⟨hF, hSO, hW⟩, ⟨hB, hB0, hB1⟩, ⟨hO4, hcnw⟩, ⟨hn1, hn2, hn3, hn4⟩, hAl, hGP⟩ := id hRP
      have hus := hSO.1.2.1
      refine mw_go mu_g383 (k := 2) (f1 := (94, [(1, .inl (nI i)), (0, .inr (.inr (some 0)))], [.inr (.inr (mu_r Q13 0 9))], Q13)) (C := [mu_is Q13 (some 0) 0]) rfl (show mu_is Q13 (some 0) 0 from (u13.1.1.is rfl)) ?_
      rw [(u13.1.1.r (p := 0) (j := 9) (q := 129) rfl)]
      refine mw_cV (fun _ => rfl) (show mu_is Q13 (some 129) 9 from (u13.1.1.is rfl)) (rl_partC6 (d := (d + 12)) (C := C) (kb := kb) (cl0 := fun _ => 1) u13 d13 hRSw.1 hRSw.2.1 hRSw.2.2.1 hRSw.2.2.2.1 hF.1.1 hF.1.2.1 (fun q hq => ⟨(hF.2 q hq).1.1, (hF.2 q hq).1.2.2.1, (hF.2 q hq).2.2.1⟩) (by unfold OLN at hO4; omega) hW (fun t ht => ⟨by rw [(show (V13.2.2.1 129 7) = (V3.2.2.1 129 7) from ((z13.a 129 7 rfl).trans ((z11.a 129 7 rfl).trans ((zza.a 129 7 rfl).trans (z4.a 129 7 rfl)))))]; exact hb7c t ht, by omega⟩) hC21 hC21b (by omega) hC23b hC18 hC18b (by rw [(show (V13.2.2.1 129 6).1 = (V3.2.2.1 129 6).1 from ((z13.n 129 6 rfl).trans ((z11.n 129 6 rfl).trans ((zza.n 129 6 rfl).trans (z4.n 129 6 rfl)))))]; omega) (by rw [(show (V13.2.2.1 129 6).1 = (V3.2.2.1 129 6).1 from ((z13.n 129 6 rfl).trans ((z11.n 129 6 rfl).trans ((zza.n 129 6 rfl).trans (z4.n 129 6 rfl)))))]; omega) (by rw [(show (V13.2.2.1 129 7).1 = (V3.2.2.1 129 7).1 from ((z13.n 129 7 rfl).trans ((z11.n 129 7 rfl).trans ((zza.n 129 7 rfl).trans (z4.n 129 7 rfl)))))]; omega) (by rw [(show (V13.2.2.1 129 7).1 = (V3.2.2.1 129 7).1 from ((z13.n 129 7 rfl).trans ((z11.n 129 7 rfl).trans ((zza.n 129 7 rfl).trans (z4.n 129 7 rfl)))))]; omega) (by rw [(show (V13.2.2.1 129 8).1 = (V3.2.2.1 129 8).1 from ((z13.n 129 8 rfl).trans ((z11.n 129 8 rfl).trans ((zza.n 129 8 rfl).trans (z4.n 129 8 rfl)))))]; omega) (by rw [(show (V13.2.2.1 129 8).1 = (V3.2.2.1 129 8).1 from ((z13.n 129 8 rfl).trans ((z11.n 129 8 rfl).trans ((zza.n 129 8 rfl).trans (z4.n 129 8 rfl)))))]; omega) (by rw [(show (V13.2.2.1 129 9).1 = (V3.2.2.1 129 9).1 from ((z13.n 129 9 rfl).trans ((z11.n 129 9 rfl).trans ((zza.n 129 9 rfl).trans (z4.n 129 9 rfl)))))]; exact hkb1) hkb2 hkb3) (fun Q14 q14 => ?_)
      obtain ⟨u14, r14, z14, hKNc, hMCc, hMLc, hWMc, hCJ⟩ := q14
      have ht14 : ur m C H Q14 := ht13.trans r14
      obtain ⟨V14, d14⟩ : ∃ V, ud m Q14 = V := ⟨_, rfl⟩
      rw [d14] at z14 hKNc hMCc hMLc hWMc hCJ
      have qf14 : uq F383 U V14 := qf13.tr z14 rfl
      have hSOc := hSO.q z14 rfl rfl rfl rfl rfl rfl
      obtain ⟨kk2, hkk2, hM52, -⟩ := hSOc.2.2.2.1
      have hkkb2 : 2 ^ kk2 ≤ 2 ^ 12 := Nat.pow_le_pow_right (by decide) hkk2
      have hkk3 : 2 ^ kk2 - 1 < 4096 := by omega
      have zPC := z14
      refine mw_go mu_g383 (k := 2) (f1 := (101, [(1, .inl (nI i)), (0, .inr (.inr (some 0)))], [.inr (.inr (mu_r Q14 0 9))], Q14)) (C := [mu_is Q14 (some 0) 0]) rfl (show mu_is Q14 (some 0) 0 from (u14.1.1.is rfl)) ?_
      rw [(u14.1.1.r (p := 0) (j := 9) (q := 129) rfl)]
      refine mw_cV (fun _ => rfl) (show mu_is Q14 (some 129) 9 from (u14.1.1.is rfl)) (rl_openRows (d := (d + 15)) (C := C) (M := 2 ^ kk2 - 1) (T := pd f 0 P) (P := P) (tm := tm) (lv := lv) u14 d14 hSOc (by omega) hM52 hkk3 hKNc.1.1.2.2.1 hpd (by rw [(show (V14.2.2.1 129 8).1 = (V3.2.2.1 129 8).1 from ((z14.n 129 8 rfl).trans ((z13.n 129 8 rfl).trans ((z11.n 129 8 rfl).trans ((zza.n 129 8 rfl).trans (z4.n 129 8 rfl))))))]; omega) (by rw [(show (V14.2.2.1 129 8).1 = (V3.2.2.1 129 8).1 from ((z14.n 129 8 rfl).trans ((z13.n 129 8 rfl).trans ((z11.n 129 8 rfl).trans ((zza.n 129 8 rfl).trans (z4.n 129 8 rfl))))))]; omega) (by rw [(show (V14.2.2.1 129 10).1 = (V3.2.2.1 129 10).1 from ((z14.n 129 10 rfl).trans ((z13.n 129 10 rfl).trans ((z11.n 129 10 rfl).trans ((zza.n 129 10 rfl).trans (z4.n 129 10 rfl))))))]; omega) hP14 (by rw [(show (V14.1 24) = (V13.1 24) from (z14.t 24 rfl))]; exact hF.1.1) hF.1.2.1 (fun r hr => by rw [(show (V14.1 24) = (V13.1 24) from (z14.t 24 rfl))]; exact ⟨⟨(hF.2 r hr).1.2.1, (hF.2 r hr).1.2.2.2⟩, (hF.2 r hr).2.1⟩)) (fun Q15 q15 => ?_)
      obtain ⟨u15, r15, z15, hO, ⟨hO7, hO8⟩, hO24, hCH, h8m⟩ := q15
      have ht15 : ur m C H Q15 := ht14.trans r15
      obtain ⟨V15, d15⟩ : ∃ V, ud m Q15 = V := ⟨_, rfl⟩
      rw [d15] at z15 hO hO7 hO8 hO24 hCH h8m
      have qf15 : uq F383 U V15 := qf14.tr z15 rfl
      obtain ⟨us1, S1, z1, p1, cl, hRD0, hRD1⟩ := rd_rows hRSw hRP zPC hKNc hMCc hMLc hWMc hCJ z15 hO hO8 hO24 hCH h8m (by omega) (by rw [(show (V13.2.2.1 129 6).1 = (V3.2.2.1 129 6).1 from ((z13.n 129 6 rfl).trans ((z11.n 129 6 rfl).trans ((zza.n 129 6 rfl).trans (z4.n 129 6 rfl)))))]; omega) (by rw [(show (V13.2.2.1 129 7).1 = (V3.2.2.1 129 7).1 from ((z13.n 129 7 rfl).trans ((z11.n 129 7 rfl).trans ((zza.n 129 7 rfl).trans (z4.n 129 7 rfl)))))]; omega) (by rw [(show (V13.2.2.1 129 8).1 = (V3.2.2.1 129 8).1 from ((z13.n 129 8 rfl).trans ((z11.n 129 8 rfl).trans ((zza.n 129 8 rfl).trans (z4.n 129 8 rfl)))))]; omega) (by rw [(show (V13.2.2.1 129 12).1 = (V3.2.2.1 129 12).1 from ((z13.n 129 12 rfl).trans ((z11.n 129 12 rfl).trans ((zza.n 129 12 rfl).trans (z4.n 129 12 rfl)))))]; omega)
      have hRE0 : RDE V15 m od Y es P f N 0 GW nf nm tm bs lv oid nw wa wn wi wk nb bo cl A (fun j => (S j, p j)) := ⟨_, _, _, _, _, _, fun j hj => by rw [(hRD1 j hj).1, (hRD1 j hj).2], hRD0⟩
      refine mw_go mu_g383 (k := 2) (f1 := (106, [(1, .inl (0 : Int32)), (0, .inr (.inr (some 0)))], [], Q15)) (C := []) rfl trivial ?_
      show mu_W _ _ (106, [(1, .inl (nI 0)), (0, .inr (.inr (some 0)))], [], Q15) _
      refine mw_sub (L' := [(1, .inl (nI 0)), (0, .inr (.inr (some 0)))]) (by simp) ?_
      refine mw_down (α := Nat × mu_H) (fun zs => (106, [(1, .inl (nI zs.1)), (0, .inr (.inr (some 0)))], [], zs.2)) (fun zs => pd f 0 P - zs.1) (fun zs => um m zs.2 ∧ ur m C H zs.2 ∧ (uq F383b V15 (ud m zs.2)) ∧ (zs.1 ≤ pd f 0 P) ∧ (RDE (ud m zs.2) m od Y es P f N zs.1 GW nf nm tm bs lv oid nw wa wn wi wk nb bo cl A (fun j => (S j, p j)))) (fun zs hzb ihb => ?_) (0, Q15) ⟨u15, ht15, (show uq F383b V15 (ud m Q15) from by rw [d15]; exact uq.refl _ _), (show 0 ≤ pd f 0 P from (Nat.zero_le _)), (show RDE (ud m Q15) m od Y es P f N 0 GW nf nm tm bs lv oid nw wa wn wi wk nb bo cl A (fun j => (S j, p j)) from by rw [d15]; exact hRE0)⟩
      obtain ⟨q, Hsb⟩ := zs
      obtain ⟨ub, htb, db, hq, hRE⟩ := hzb
      have ub : um m Hsb := ub
      have htb : ur m C H Hsb := htb
      have zzb : uq F383b V15 (ud m Hsb) := db
      have hq : q ≤ pd f 0 P := hq
      have hRE : RDE (ud m Hsb) m od Y es P f N q GW nf nm tm bs lv oid nw wa wn wi wk nb bo cl A (fun j => (S j, p j)) := hRE
      obtain ⟨Vb, db⟩ : ∃ V, ud m Hsb = V := ⟨_, rfl⟩
      rw [db] at zzb hRE
      have qfb : uq F383 U Vb := qf15.tr zzb rfl
      show mu_W _ _ (106, [(1, .inl (nI q)), (0, .inr (.inr (some 0)))], [], Hsb) _
      refine mw_go mu_g383 (k := 3) (f1 := (111, [(1, .inl (nI q)), (0, .inr (.inr (some 0)))], [.inr (.inr (mu_r Hsb 0 8)), .inl (nI q)], Hsb)) (C := [mu_is Hsb (some 0) 0]) rfl (show mu_is Hsb (some 0) 0 from (ub.1.1.is rfl)) ?_
      rw [(ub.1.1.r (p := 0) (j := 8) (q := 99) rfl)]
      refine mw_go mu_g383 (k := 1) (f1 := (114, [(1, .inl (nI q)), (0, .inr (.inr (some 0)))], [.inl (mu_i Hsb 99 11), .inl (nI q)], Hsb)) (C := [mu_is Hsb (some 99) 13]) rfl (show mu_is Hsb (some 99) 13 from (ub.1.1.is rfl)) ?_
      rw [(show mu_i Hsb 99 11 = (nI (pd f 0 P)) from (ud_i (U := Vb) (m := m) (P := 99) (j := 11) db rfl).trans ((zzb.i 99 11 rfl).trans ((z15.i 99 11 rfl).trans ((z14.i 99 11 rfl).trans ((z13.i 99 11 rfl).trans ((z11.i 99 11 rfl).trans ((zza.i 99 11 rfl).trans ((z4.i 99 11 rfl).trans ((z3.i 99 11 rfl).trans ((z2.i 99 11 rfl).trans hT11))))))))))]
      refine mw_if (P := (nI q) < (nI (pd f 0 P))) (a := 117) (b := 147) (fun _ => rfl) trivial (fun h16 => ?_) (fun h16 => ?_)
      · -- 117: (nI q) < (nI (pd f 0 P))
        have nh16 : q < (pd f 0 P) := (nI_ltI (by omega) (by omega)).mp (show nI q < nI (pd f 0 P) from h16)
        refine mw_go mu_g383 (k := 2) (f1 := (121, [(1, .inl (nI q)), (0, .inr (.inr (some 0)))], [.inr (.inr (mu_r Hsb 0 9))], Hsb)) (C := [mu_is Hsb (some 0) 0]) rfl (show mu_is Hsb (some 0) 0 from (ub.1.1.is rfl)) ?_
        rw [(ub.1.1.r (p := 0) (j := 9) (q := 129) rfl)]
        refine mw_go mu_g383 (k := 1) (f1 := (122, [(1, .inl (nI q)), (0, .inr (.inr (some 0)))], [.inl (nI q), .inr (.inr (some 129))], Hsb)) (C := []) rfl trivial ?_
        refine mw_cI (fun _ => rfl) (show mu_is Hsb (some 129) 9 from (ub.1.1.is rfl)) (rl_findD (d := (d + 18)) (C := C) ub db hRE (by omega)) (fun x17 Q17 q17 => ?_)
        rcases q17 with ⟨u17, r17, z17, ⟨rfl, hRE1⟩ | ⟨rfl, hal, hVu⟩⟩
        · -- (1 : Int32)
          have ht17 : ur m C H Q17 := htb.trans r17
          obtain ⟨V17, d17⟩ : ∃ V, ud m Q17 = V := ⟨_, rfl⟩
          rw [d17] at z17 hRE1
          have qf17 : uq F383 U V17 := qfb.tr z17 rfl
          refine mw_if (P := (1 : Int32) = 0) (a := 128) (b := 141) (fun _ => rfl) trivial (fun h18 => absurd h18 (by decide)) (fun h18 => ?_)
          refine mw_go mu_g383 (k := 1) (f1 := (144, [(1, .inl ((nI q) + 1)), (0, .inr (.inr (some 0)))], [], Q17)) (C := []) rfl trivial ?_
          rw [(show ((nI q) + 1) = (nI (q + 1)) from (nI_add q 1))]
          refine mw_go mu_g383 (k := 1) (f1 := (106, [(1, .inl (nI (q + 1))), (0, .inr (.inr (some 0)))], [], Q17)) (C := []) rfl trivial ?_
          exact mw_sub (by simp) (ihb (q + 1, Q17) ⟨u17, ht17, (show uq F383b V15 (ud m Q17) from by rw [d17]; exact (zzb.tr z17 rfl)), (show (q + 1) ≤ pd f 0 P from (by omega)), (show RDE (ud m Q17) m od Y es P f N (q + 1) GW nf nm tm bs lv oid nw wa wn wi wk nb bo cl A (fun j => (S j, p j)) from by rw [d17]; exact hRE1)⟩ (by show pd f 0 P - (q + 1) < pd f 0 P - q; omega))
        · -- (0 : Int32)
          have ht17 : ur m C H Q17 := htb.trans r17
          obtain ⟨V17, d17⟩ : ∃ V, ud m Q17 = V := ⟨_, rfl⟩
          rw [d17] at z17 hVu
          have qf17 : uq F383 U V17 := qfb.tr z17 rfl
          obtain ⟨N5, us5, S5, z5x, p5, ro5, hOx, hRX⟩ := hRE
          refine mw_if (P := (0 : Int32) = 0) (a := 128) (b := 141) (fun _ => rfl) trivial (fun h19 => ?_) (fun h19 => absurd (by decide) h19)
          refine mw_go mu_g383 (k := 2) (f1 := (130, [(1, .inl (nI q)), (0, .inr (.inr (some 0)))], [.inl (nI q), .inr (.inr (some 0))], Q17)) (C := []) rfl trivial ?_
          refine mw_cV (fun _ => rfl) (show mu_is Q17 (some 0) 0 from (u17.1.1.is rfl)) (pv_mrowD (d := d) (C := C) u17 d17 hVu hRX (by omega) hC21 hC21b) (fun Q20 q20 => ?_)
          obtain ⟨u20, r20, z20, hRSm, nn, h11m, hLSm⟩ := q20
          have ht20 : ur m C H Q20 := ht17.trans r20
          obtain ⟨V20, d20⟩ : ∃ V, ud m Q20 = V := ⟨_, rfl⟩
          rw [d20] at z20 hRSm h11m hLSm
          have qf20 : uq F383 U V20 := qf17.tr z20 rfl
          have zMR := z20
          refine mw_go mu_g383 (k := 2) (f1 := (137, [(1, .inl (nI q)), (0, .inr (.inr (some 0)))], [.inr (.inr (mu_r Q20 0 9))], Q20)) (C := [mu_is Q20 (some 0) 0]) rfl (show mu_is Q20 (some 0) 0 from (u20.1.1.is rfl)) ?_
          rw [(u20.1.1.r (p := 0) (j := 9) (q := 129) rfl)]
          refine mw_go mu_g383 (k := 1) (f1 := (138, [(1, .inl (nI q)), (0, .inr (.inr (some 0)))], [.inl (nI q), .inr (.inr (some 129))], Q20)) (C := []) rfl trivial ?_
          refine mw_cV (fun _ => rfl) (show mu_is Q20 (some 129) 9 from (u20.1.1.is rfl)) (rl_keepD (d := (d + 15)) (C := C) u20 d20 hVu hRX (by omega) hal zMR hRSm h11m hLSm (by omega) hOx) (fun Q21 q21 => ?_)
          obtain ⟨u21, r21, z21, hRE1⟩ := q21
          have ht21 : ur m C H Q21 := ht20.trans r21
          obtain ⟨V21, d21⟩ : ∃ V, ud m Q21 = V := ⟨_, rfl⟩
          rw [d21] at z21 hRE1
          have qf21 : uq F383 U V21 := qf20.tr z21 rfl
          refine mw_go mu_g383 (k := 1) (f1 := (144, [(1, .inl ((nI q) + 1)), (0, .inr (.inr (some 0)))], [], Q21)) (C := []) rfl trivial ?_
          rw [(show ((nI q) + 1) = (nI (q + 1)) from (nI_add q 1))]
          refine mw_go mu_g383 (k := 1) (f1 := (106, [(1, .inl (nI (q + 1))), (0, .inr (.inr (some 0)))], [], Q21)) (C := []) rfl trivial ?_
          exact mw_sub (by simp) (ihb (q + 1, Q21) ⟨u21, ht21, (show uq F383b V15 (ud m Q21) from by rw [d21]; exact (((zzb.tr z17 rfl).tr z20 rfl).tr z21 rfl)), (show (q + 1) ≤ pd f 0 P from (by omega)), (show RDE (ud m Q21) m od Y es P f N (q + 1) GW nf nm tm bs lv oid nw wa wn wi wk nb bo cl A (fun j => (S j, p j)) from by rw [d21]; exact hRE1)⟩ (by show pd f 0 P - (q + 1) < pd f 0 P - q; omega))
      · -- 147: not (nI q) < (nI (pd f 0 P))
        have nh16 : ¬ q < (pd f 0 P) := fun z => h16 (show nI q < nI (pd f 0 P) from (nI_ltI (by omega) (by omega)).mpr z)
        have hSPX : spx m Vb P f := by obtain ⟨N6, us6, S6, z6x, p6, ro6, hOx6, hRX6⟩ := hRE; exact hRX6.1.1.1.1
        refine mw_go mu_g383 (k := 2) (f1 := (151, [(1, .inl (nI q)), (0, .inr (.inr (some 0)))], [.inr (.inr (mu_r Hsb 0 10))], Hsb)) (C := [mu_is Hsb (some 0) 0]) rfl (show mu_is Hsb (some 0) 0 from (ub.1.1.is rfl)) ?_
        rw [(ub.1.1.r (p := 0) (j := 10) (q := 147) rfl)]
        have hqT : q = pd f 0 P := by omega
        rw [hqT] at hRE
        have hRE2 := hRE
        obtain ⟨N5, us5, S5, z5x, p5, ro5, hRX5, hS5, hN5, hf5, ⟨hf5a, hf5b⟩, hr0, hO5, hrr⟩ := hRE2.all
        refine mw_cV (fun _ => rfl) (show mu_is Hsb (some 147) 2 from (ub.1.1.is rfl)) (gr_begin (d := (d + 17)) (C := C) (T := pd f 0 P) (N := N5) (fb := N) (R := N5 - N) (rx := ro5) ub db hSPX rfl hN5 hf5 (by omega) rfl hf5b (fun s hs => ⟨(hrr s hs).1, (hrr s hs).2.1⟩) (by rw [(show (Vb.2.2.1 129 6).1 = (V3.2.2.1 129 6).1 from ((zzb.n 129 6 rfl).trans ((z15.n 129 6 rfl).trans ((z14.n 129 6 rfl).trans ((z13.n 129 6 rfl).trans ((z11.n 129 6 rfl).trans ((zza.n 129 6 rfl).trans (z4.n 129 6 rfl))))))))]; omega) (by rw [(show (Vb.2.2.1 129 6).1 = (V3.2.2.1 129 6).1 from ((zzb.n 129 6 rfl).trans ((z15.n 129 6 rfl).trans ((z14.n 129 6 rfl).trans ((z13.n 129 6 rfl).trans ((z11.n 129 6 rfl).trans ((zza.n 129 6 rfl).trans (z4.n 129 6 rfl))))))))]; omega) (by rw [(show (Vb.2.2.1 147 10).1 = (U.2.2.1 147 10).1 from ((zzb.n 147 10 rfl).trans ((z15.n 147 10 rfl).trans ((z14.n 147 10 rfl).trans ((z13.n 147 10 rfl).trans ((z11.n 147 10 rfl).trans ((zza.n 147 10 rfl).trans ((z4.n 147 10 rfl).trans ((z3.n 147 10 rfl).trans (z2.n 147 10 rfl))))))))))]; exact hg10) (by rw [(show (Vb.2.2.1 147 11).1 = (U.2.2.1 147 11).1 from ((zzb.n 147 11 rfl).trans ((z15.n 147 11 rfl).trans ((z14.n 147 11 rfl).trans ((z13.n 147 11 rfl).trans ((z11.n 147 11 rfl).trans ((zza.n 147 11 rfl).trans ((z4.n 147 11 rfl).trans ((z3.n 147 11 rfl).trans (z2.n 147 11 rfl))))))))))]; exact hg11) (by rw [(show (Vb.2.2.1 147 12).1 = (U.2.2.1 147 12).1 from ((zzb.n 147 12 rfl).trans ((z15.n 147 12 rfl).trans ((z14.n 147 12 rfl).trans ((z13.n 147 12 rfl).trans ((z11.n 147 12 rfl).trans ((zza.n 147 12 rfl).trans ((z4.n 147 12 rfl).trans ((z3.n 147 12 rfl).trans (z2.n 147 12 rfl))))))))))]; exact hg12) (by rw [(show (Vb.2.2.1 147 13).1 = (U.2.2.1 147 13).1 from ((zzb.n 147 13 rfl).trans ((z15.n 147 13 rfl).trans ((z14.n 147 13 rfl).trans ((z13.n 147 13 rfl).trans ((z11.n 147 13 rfl).trans ((zza.n 147 13 rfl).trans ((z4.n 147 13 rfl).trans ((z3.n 147 13 rfl).trans (z2.n 147 13 rfl))))))))))]; exact hg13)) (fun Q22 q22 => ?_)
        obtain ⟨u22, r22, z22, hw15, ⟨ha10, hn10, ha11, hn11, ha12, hn12, ha13, hn13⟩, hmb1, hmb2⟩ := q22
        have ht22 : ur m C H Q22 := htb.trans r22
        obtain ⟨V22, d22⟩ : ∃ V, ud m Q22 = V := ⟨_, rfl⟩
        rw [d22] at z22 hw15 ha10 hn10 ha11 hn11 ha12 hn12 ha13 hn13 hmb1 hmb2
        have qf22 : uq F383 U V22 := qfb.tr z22 rfl
        have zGB := z22
        have ho10 := lwh_le hn10
        have ho11 := lwh_le hn11
        have ho12 := lwh_le hn12
        have ho13 := lwh_le hn13
        refine mw_go mu_g383 (k := 2) (f1 := (158, [(1, .inl (nI q)), (0, .inr (.inr (some 0)))], [.inr (.inr (mu_r Q22 0 11))], Q22)) (C := [mu_is Q22 (some 0) 0]) rfl (show mu_is Q22 (some 0) 0 from (u22.1.1.is rfl)) ?_
        rw [(u22.1.1.r (p := 0) (j := 11) (q := 158) rfl)]
        refine mw_cV (fun _ => rfl) (show mu_is Q22 (some 158) 8 from (u22.1.1.is rfl)) (pv_explore (d := (d + 15)) (C := C) (wn := (pd f 0 P + 63) / 64) (T := pd f 0 P) (R := N5 - N) (N := N5) (fb := N) (rx := ro5) u22 d22 ((show (V22.2.1 99 12) = (Vb.2.1 99 12) from (z22.i 99 12 rfl)).trans hSPX.1.2.2.2) ((show (V22.2.1 99 11) = (Vb.2.1 99 11) from (z22.i 99 11 rfl)).trans hSPX.1.2.2.1) rfl hpd ((show (V22.2.1 113 2) = (Vb.2.1 113 2) from (z22.i 113 2 rfl)).trans hN5) ((show (V22.2.1 113 8) = (Vb.2.1 113 8) from (z22.i 113 8 rfl)).trans hf5) (by omega) rfl (by omega) (by omega) (by omega) (by omega) (by rw [(show (V22.2.2.1 129 6).1 = (V3.2.2.1 129 6).1 from ((z22.n 129 6 rfl).trans ((zzb.n 129 6 rfl).trans ((z15.n 129 6 rfl).trans ((z14.n 129 6 rfl).trans ((z13.n 129 6 rfl).trans ((z11.n 129 6 rfl).trans ((zza.n 129 6 rfl).trans (z4.n 129 6 rfl)))))))))]; omega) (by rw [(show (V22.2.2.1 129 6).1 = (V3.2.2.1 129 6).1 from ((z22.n 129 6 rfl).trans ((zzb.n 129 6 rfl).trans ((z15.n 129 6 rfl).trans ((z14.n 129 6 rfl).trans ((z13.n 129 6 rfl).trans ((z11.n 129 6 rfl).trans ((zza.n 129 6 rfl).trans (z4.n 129 6 rfl)))))))))]; omega) (by rw [(show (V22.2.2.1 129 6) = (Vb.2.2.1 129 6) from (z22.a 129 6 rfl))]; exact fun s hs => ⟨(hrr s hs).1, (hrr s hs).2.1⟩)) (fun Q23 q23 => ?_)
        obtain ⟨u23, r23, z23, hres⟩ := q23
        have ht23 : ur m C H Q23 := ht22.trans r23
        obtain ⟨V23, d23⟩ : ∃ V, ud m Q23 = V := ⟨_, rfl⟩
        rw [d23] at z23 hres
        have qf23 : uq F383 U V23 := qf22.tr z23 rfl
        have zPE := z23
        refine mw_of (fun _ => mu_ret rfl trivial ⟨Q23, rfl, u23, ht23, (by rw [d23]; exact qf23), ?_⟩)
        rw [d23]
        have hFRO : FRO Vb m U Y P f od es N (fun j => (S j, p j)) := ⟨kN, V2, kS, kp, hKW, ⟨(show (Vb.2.1 99 19) = (V2.2.1 99 19) from ((zzb.i 99 19 rfl).trans ((z15.i 99 19 rfl).trans ((z14.i 99 19 rfl).trans ((z13.i 99 19 rfl).trans ((z11.i 99 19 rfl).trans ((zza.i 99 19 rfl).trans ((z4.i 99 19 rfl).trans (z3.i 99 19 rfl))))))))).trans hk19, (show (Vb.1 16) = (V2.1 16) from ((zzb.t 16 rfl).trans ((z15.t 16 rfl).trans ((z14.t 16 rfl).trans ((z13.t 16 rfl).trans ((z11.t 16 rfl).trans ((zza.t 16 rfl).trans ((z4.t 16 rfl).trans (z3.t 16 rfl))))))))), (show (Vb.2.2.2.2.1 124) = (V2.2.2.2.2.1 124) from ((zzb.l 124 rfl).trans ((z15.l 124 rfl).trans ((z14.l 124 rfl).trans ((z13.l 124 rfl).trans ((z11.l 124 rfl).trans ((zza.l 124 rfl).trans ((z4.l 124 rfl).trans (z3.l 124 rfl))))))))), (show (Vb.2.2.2.2.1 125) = (V2.2.2.2.2.1 125) from ((zzb.l 125 rfl).trans ((z15.l 125 rfl).trans ((z14.l 125 rfl).trans ((z13.l 125 rfl).trans ((z11.l 125 rfl).trans ((zza.l 125 rfl).trans ((z4.l 125 rfl).trans (z3.l 125 rfl)))))))))⟩, hn4.2.1, hn4.2.2, hkfr, hkN.2⟩
        exact ⟨V3, Vb, V22, N, N5, ro5, GX, hGX, ⟨nf, nm, tm, bs, lv, oid, nw, wa, wn, wi, wk, nb, bo, cl, A, GW, _, hGw, ⟨us5, S5, z5x, p5, hO5, hRX5⟩, hFRO⟩, ⟨zGB, zPE⟩, ⟨ha10, hn10, ha11, hn11, ha12, hn12, ha13, hn13⟩, ⟨hmb1, hmb2⟩, hres⟩
    · -- (1 : Int32)
      have ht11 : ur m C H Q11 := hta.trans r11
      obtain ⟨V11, d11⟩ : ∃ V, ud m Q11 = V := ⟨_, rfl⟩
      rw [d11] at z11 hRSo hRo hszo hPCo hBo
      have qf11 : uq F383 U V11 := qfa.tr z11 rfl
      have hnbo : (2 : Nat) = i + 1 := by omega
      have hGo := hG1a
      refine mw_if (P := (1 : Int32) = 0) (a := 83) (b := 56) (fun _ => rfl) trivial (fun h24 => absurd h24 (by decide)) (fun h24 => ?_)
      refine mw_go mu_g383 (k := 2) (f1 := (60, [(1, .inl (nI i)), (0, .inr (.inr (some 0)))], [.inr (.inr (mu_r Q11 0 9))], Q11)) (C := [mu_is Q11 (some 0) 0]) rfl (show mu_is Q11 (some 0) 0 from (u11.1.1.is rfl)) ?_
      rw [(u11.1.1.r (p := 0) (j := 9) (q := 129) rfl)]
      refine mw_cV (fun _ => rfl) (show mu_is Q11 (some 129) 9 from (u11.1.1.is rfl)) (rl_split (d := (d + 14)) (C := C) u11 d11 hRSo hPCo (by omega) (by omega) hC23b) (fun Q25 q25 => ?_)
      obtain ⟨u25, r25, z25, hszs, hPCs, hPNs⟩ := q25
      have ht25 : ur m C H Q25 := ht11.trans r25
      obtain ⟨V25, d25⟩ : ∃ V, ud m Q25 = V := ⟨_, rfl⟩
      rw [d25] at z25 hszs hPCs hPNs
      have qf25 : uq F383 U V25 := qf11.tr z25 rfl
      have hRSs := RSK.q hRSo z25 rfl rfl
      have hRGs := RLG.q hRo z25 rfl rfl
      have hszs2 : (V25.1 23).1 ≤ 2048 := Nat.le_trans hszs (Nat.max_le.mpr ⟨by omega, by omega⟩)
      refine mw_go mu_g383 (k := 2) (f1 := (67, [(1, .inl (nI i)), (0, .inr (.inr (some 0)))], [.inr (.inr (mu_r Q25 0 9))], Q25)) (C := [mu_is Q25 (some 0) 0]) rfl (show mu_is Q25 (some 0) 0 from (u25.1.1.is rfl)) ?_
      rw [(u25.1.1.r (p := 0) (j := 9) (q := 129) rfl)]
      refine mw_cV (fun _ => rfl) (show mu_is Q25 (some 129) 9 from (u25.1.1.is rfl)) (rl_equals (d := (d + 11)) (C := C) u25 d25 hRSs hRGs hPCs (by omega) (by omega) (by omega) (by omega) hC21 hC21b hC24 hC24b hC25 hC25b) (fun Q26 q26 => ?_)
      obtain ⟨u26, r26, z26, hRSe, hsze, hPCe, Ge, hRGe, hGe⟩ := q26
      have ht26 : ur m C H Q26 := ht25.trans r26
      obtain ⟨V26, d26⟩ : ∃ V, ud m Q26 = V := ⟨_, rfl⟩
      rw [d26] at z26 hRSe hsze hPCe hRGe hGe
      have qf26 : uq F383 U V26 := qf25.tr z26 rfl
      refine mw_go mu_g383 (k := 2) (f1 := (74, [(1, .inl (nI i)), (0, .inr (.inr (some 0)))], [.inr (.inr (mu_r Q26 0 9))], Q26)) (C := [mu_is Q26 (some 0) 0]) rfl (show mu_is Q26 (some 0) 0 from (u26.1.1.is rfl)) ?_
      rw [(u26.1.1.r (p := 0) (j := 9) (q := 129) rfl)]
      refine mw_cV (fun _ => rfl) (show mu_is Q26 (some 129) 9 from (u26.1.1.is rfl)) (rl_pieces (d := (d + 11)) (C := C) u26 d26 hRSe hRGe hPCe (by omega) (by omega) (by omega) (by omega) hC21 hC21b hC24 hC24b hC25 hC25b) (fun Q27 q27 => ?_)
      obtain ⟨u27, r27, z27, hRSp, h27p, Gp, hRGp, hGp⟩ := q27
      have ht27 : ur m C H Q27 := ht26.trans r27
      obtain ⟨V27, d27⟩ : ∃ V, ud m Q27 = V := ⟨_, rfl⟩
      rw [d27] at z27 hRSp h27p hRGp
      have qf27 : uq F383 U V27 := qf26.tr z27 rfl
      refine mw_go mu_g383 (k := 1) (f1 := (80, [(1, .inl ((nI i) + 1)), (0, .inr (.inr (some 0)))], [], Q27)) (C := []) rfl trivial ?_
      rw [(show ((nI i) + 1) = (nI (i + 1)) from (nI_add i 1))]
      refine mw_go mu_g383 (k := 1) (f1 := (36, [(1, .inl (nI (i + 1))), (0, .inr (.inr (some 0)))], [], Q27)) (C := []) rfl trivial ?_
      exact mw_sub (by simp) (iha (i + 1, Q27) ⟨u27, ht27, (show uq F383a V4 (ud m Q27) from by rw [d27]; exact ((((zza.tr z11 rfl).tr z25 rfl).tr z26 rfl).tr z27 rfl)), (show RSK m (ud m Q27) Y P f od es from by rw [d27]; exact hRSp), (show RJ (ud m Q27) V3 Y es P f od kN (fun j => (kS j, kp j)) kus GX (i + 1) from by rw [d27]; exact (by rw [show i + 1 = 2 by omega]; exact RJ.more (U := Va) (V1 := V11) (V2 := V25) (V3 := V26) (t1 := V25.1 23) (t2 := V26.1 23) hBo (by omega) ⟨(show (V11.1 15) = (Va.1 15) from (z11.t 15 rfl)), (show (V11.2.2.1 99 8) = (Va.2.2.1 99 8) from (z11.a 99 8 rfl))⟩ ⟨(show (V25.1 15) = (V11.1 15) from (z25.t 15 rfl)), (show (V25.2.2.1 99 8) = (V11.2.2.1 99 8) from (z25.a 99 8 rfl))⟩ ⟨(show (V26.1 15) = (V25.1 15) from (z26.t 15 rfl)), (show (V26.2.2.1 99 8) = (V25.2.2.1 99 8) from (z26.a 99 8 rfl))⟩ ⟨(show (V27.1 15) = (V26.1 15) from (z27.t 15 rfl)), (show (V27.2.2.1 99 8) = (V26.2.2.1 99 8) from (z27.a 99 8 rfl))⟩ hGo hPNs hGe hGp (show (V27.2.1 129 22) = (V11.2.1 129 22) from ((z27.i 129 22 rfl).trans ((z26.i 129 22 rfl).trans (z25.i 129 22 rfl)))) (by rw [← (show V26.1 27 = V11.1 27 from ((z26.t 27 rfl).trans (z25.t 27 rfl)))]; exact h27p) hRGp (by omega)))⟩ (by show 65536 - (i + 1) < 65536 - i; omega))
  · -- B
    have hBn := hBa.2.2.1.2.2.1
    refine mw_go mu_g383 (k := 1) (f1 := (43, [(1, .inl (nI i)), (0, .inr (.inr (some 0)))], [.inl (nI i)], Hsa)) (C := []) rfl trivial ?_
    refine mw_if (P := (nI i) = 0) (a := 56) (b := 46) (fun _ => rfl) trivial (fun h28 => absurd h28 (fun y => by have y2 := (nI_eq (a := i) (b := 0) (by omega) (by omega)).mp (show nI i = nI 0 from y); omega)) (fun h28 => ?_)
    refine mw_go mu_g383 (k := 2) (f1 := (50, [(1, .inl (nI i)), (0, .inr (.inr (some 0)))], [.inr (.inr (mu_r Hsa 0 9))], Hsa)) (C := [mu_is Hsa (some 0) 0]) rfl (show mu_is Hsa (some 0) 0 from (ua.1.1.is rfl)) ?_
    rw [(ua.1.1.r (p := 0) (j := 9) (q := 129) rfl)]
    refine mw_cI (fun _ => rfl) (show mu_is Hsa (some 129) 9 from (ua.1.1.is rfl)) (rl_open2 (d := (d + 14)) (C := C) ua da hRSa hRGa hBa (by omega) hC23b (by omega) hC27b) (fun x29 Q29 q29 => ?_)
    rcases q29 with ⟨u29, r29, z29, hRSo, ⟨rfl, hRo, hBo⟩ | ⟨rfl, hbn1, bo1, bn1, pa1, pn1, Go, cn1, hcn1, hRo, hszo, hPCo, hBo⟩⟩
    · -- (0 : Int32)
      have ht29 : ur m C H Q29 := hta.trans r29
      obtain ⟨V29, d29⟩ : ∃ V, ud m Q29 = V := ⟨_, rfl⟩
      rw [d29] at z29 hRSo hRo hBo
      have qf29 : uq F383 U V29 := qfa.tr z29 rfl
      refine mw_if (P := (0 : Int32) = 0) (a := 83) (b := 56) (fun _ => rfl) trivial (fun h30 => ?_) (fun h30 => absurd (by decide) h30)
      refine mw_go mu_g383 (k := 2) (f1 := (87, [(1, .inl (nI i)), (0, .inr (.inr (some 0)))], [.inr (.inr (mu_r Q29 0 9))], Q29)) (C := [mu_is Q29 (some 0) 0]) rfl (show mu_is Q29 (some 0) 0 from (u29.1.1.is rfl)) ?_
      rw [(u29.1.1.r (p := 0) (j := 9) (q := 129) rfl)]
      refine mw_cV (fun _ => rfl) (show mu_is Q29 (some 129) 9 from (u29.1.1.is rfl)) (rl_weigh (d := (d + 17)) (C := C) u29 d29 hRSo hRo (by omega) (hBo.to (show (V29.1 15) = (Va.1 15) from (z29.t 15 rfl)) (show (V29.2.2.1 99 8) = (Va.2.2.1 99 8) from (z29.a 99 8 rfl)))) (fun Q31 q31 => ?_)
      obtain ⟨u31, r31, z31, hRSw, hRFw⟩ := q31
      have ht31 : ur m C H Q31 := ht29.trans r31
      obtain ⟨V31, d31⟩ : ∃ V, ud m Q31 = V := ⟨_, rfl⟩
      rw [d31] at z31 hRSw hRFw
      have qf31 : uq F383 U V31 := qf29.tr z31 rfl
      have hGw : ∀ s u, s < pd f 0 P → u < pd f 0 P → (GF s u ↔ GX s u) := hGa
      obtain ⟨GW, hGW⟩ : ∃ GW : Nat → Nat → Prop, GW = GF := ⟨_, rfl⟩
      rw [← hGW] at hRFw hGw
      obtain ⟨A, nb, bo, N, us, S, z, p, nf, nm, tm, bs, lv, oid, nw, wa, wn, wi, wk, hRP⟩ := hRFw
      obtain ⟨⟨hF, hSO, hW⟩, ⟨hB, hB0, hB1⟩, ⟨hO4, hcnw⟩, ⟨hn1, hn2, hn3, hn4⟩, hAl, hGP⟩ := id hRP
      have hus := hSO.1.2.1
      refine mw_go mu_g383 (k := 2) (f1 := (94, [(1, .inl (nI i)), (0, .inr (.inr (some 0)))], [.inr (.inr (mu_r Q31 0 9))], Q31)) (C := [mu_is Q31 (some 0) 0]) rfl (show mu_is Q31 (some 0) 0 from (u31.1.1.is rfl)) ?_
      rw [(u31.1.1.r (p := 0) (j := 9) (q := 129) rfl)]
      refine mw_cV (fun _ => rfl) (show mu_is Q31 (some 129) 9 from (u31.1.1.is rfl)) (rl_partC6 (d := (d + 12)) (C := C) (kb := kb) (cl0 := fun _ => 1) u31 d31 hRSw.1 hRSw.2.1 hRSw.2.2.1 hRSw.2.2.2.1 hF.1.1 hF.1.2.1 (fun q hq => ⟨(hF.2 q hq).1.1, (hF.2 q hq).1.2.2.1, (hF.2 q hq).2.2.1⟩) (by unfold OLN at hO4; omega) hW (fun t ht => ⟨by rw [(show (V31.2.2.1 129 7) = (V3.2.2.1 129 7) from ((z31.a 129 7 rfl).trans ((z29.a 129 7 rfl).trans ((zza.a 129 7 rfl).trans (z4.a 129 7 rfl)))))]; exact hb7c t ht, by omega⟩) hC21 hC21b (by omega) hC23b hC18 hC18b (by rw [(show (V31.2.2.1 129 6).1 = (V3.2.2.1 129 6).1 from ((z31.n 129 6 rfl).trans ((z29.n 129 6 rfl).trans ((zza.n 129 6 rfl).trans (z4.n 129 6 rfl)))))]; omega) (by rw [(show (V31.2.2.1 129 6).1 = (V3.2.2.1 129 6).1 from ((z31.n 129 6 rfl).trans ((z29.n 129 6 rfl).trans ((zza.n 129 6 rfl).trans (z4.n 129 6 rfl)))))]; omega) (by rw [(show (V31.2.2.1 129 7).1 = (V3.2.2.1 129 7).1 from ((z31.n 129 7 rfl).trans ((z29.n 129 7 rfl).trans ((zza.n 129 7 rfl).trans (z4.n 129 7 rfl)))))]; omega) (by rw [(show (V31.2.2.1 129 7).1 = (V3.2.2.1 129 7).1 from ((z31.n 129 7 rfl).trans ((z29.n 129 7 rfl).trans ((zza.n 129 7 rfl).trans (z4.n 129 7 rfl)))))]; omega) (by rw [(show (V31.2.2.1 129 8).1 = (V3.2.2.1 129 8).1 from ((z31.n 129 8 rfl).trans ((z29.n 129 8 rfl).trans ((zza.n 129 8 rfl).trans (z4.n 129 8 rfl)))))]; omega) (by rw [(show (V31.2.2.1 129 8).1 = (V3.2.2.1 129 8).1 from ((z31.n 129 8 rfl).trans ((z29.n 129 8 rfl).trans ((zza.n 129 8 rfl).trans (z4.n 129 8 rfl)))))]; omega) (by rw [(show (V31.2.2.1 129 9).1 = (V3.2.2.1 129 9).1 from ((z31.n 129 9 rfl).trans ((z29.n 129 9 rfl).trans ((zza.n 129 9 rfl).trans (z4.n 129 9 rfl)))))]; exact hkb1) hkb2 hkb3) (fun Q32 q32 => ?_)
      obtain ⟨u32, r32, z32, hKNc, hMCc, hMLc, hWMc, hCJ⟩ := q32
      have ht32 : ur m C H Q32 := ht31.trans r32
      obtain ⟨V32, d32⟩ : ∃ V, ud m Q32 = V := ⟨_, rfl⟩
      rw [d32] at z32 hKNc hMCc hMLc hWMc hCJ
      have qf32 : uq F383 U V32 := qf31.tr z32 rfl
      have hSOc := hSO.q z32 rfl rfl rfl rfl rfl rfl
      obtain ⟨kk2, hkk2, hM52, -⟩ := hSOc.2.2.2.1
      have hkkb2 : 2 ^ kk2 ≤ 2 ^ 12 := Nat.pow_le_pow_right (by decide) hkk2
      have hkk3 : 2 ^ kk2 - 1 < 4096 := by omega
      have zPC := z32
      refine mw_go mu_g383 (k := 2) (f1 := (101, [(1, .inl (nI i)), (0, .inr (.inr (some 0)))], [.inr (.inr (mu_r Q32 0 9))], Q32)) (C := [mu_is Q32 (some 0) 0]) rfl (show mu_is Q32 (some 0) 0 from (u32.1.1.is rfl)) ?_
      rw [(u32.1.1.r (p := 0) (j := 9) (q := 129) rfl)]
      refine mw_cV (fun _ => rfl) (show mu_is Q32 (some 129) 9 from (u32.1.1.is rfl)) (rl_openRows (d := (d + 15)) (C := C) (M := 2 ^ kk2 - 1) (T := pd f 0 P) (P := P) (tm := tm) (lv := lv) u32 d32 hSOc (by omega) hM52 hkk3 hKNc.1.1.2.2.1 hpd (by rw [(show (V32.2.2.1 129 8).1 = (V3.2.2.1 129 8).1 from ((z32.n 129 8 rfl).trans ((z31.n 129 8 rfl).trans ((z29.n 129 8 rfl).trans ((zza.n 129 8 rfl).trans (z4.n 129 8 rfl))))))]; omega) (by rw [(show (V32.2.2.1 129 8).1 = (V3.2.2.1 129 8).1 from ((z32.n 129 8 rfl).trans ((z31.n 129 8 rfl).trans ((z29.n 129 8 rfl).trans ((zza.n 129 8 rfl).trans (z4.n 129 8 rfl))))))]; omega) (by rw [(show (V32.2.2.1 129 10).1 = (V3.2.2.1 129 10).1 from ((z32.n 129 10 rfl).trans ((z31.n 129 10 rfl).trans ((z29.n 129 10 rfl).trans ((zza.n 129 10 rfl).trans (z4.n 129 10 rfl))))))]; omega) hP14 (by rw [(show (V32.1 24) = (V31.1 24) from (z32.t 24 rfl))]; exact hF.1.1) hF.1.2.1 (fun r hr => by rw [(show (V32.1 24) = (V31.1 24) from (z32.t 24 rfl))]; exact ⟨⟨(hF.2 r hr).1.2.1, (hF.2 r hr).1.2.2.2⟩, (hF.2 r hr).2.1⟩)) (fun Q33 q33 => ?_)
      obtain ⟨u33, r33, z33, hO, ⟨hO7, hO8⟩, hO24, hCH, h8m⟩ := q33
      have ht33 : ur m C H Q33 := ht32.trans r33
      obtain ⟨V33, d33⟩ : ∃ V, ud m Q33 = V := ⟨_, rfl⟩
      rw [d33] at z33 hO hO7 hO8 hO24 hCH h8m
      have qf33 : uq F383 U V33 := qf32.tr z33 rfl
      obtain ⟨us1, S1, z1, p1, cl, hRD0, hRD1⟩ := rd_rows hRSw hRP zPC hKNc hMCc hMLc hWMc hCJ z33 hO hO8 hO24 hCH h8m (by omega) (by rw [(show (V31.2.2.1 129 6).1 = (V3.2.2.1 129 6).1 from ((z31.n 129 6 rfl).trans ((z29.n 129 6 rfl).trans ((zza.n 129 6 rfl).trans (z4.n 129 6 rfl)))))]; omega) (by rw [(show (V31.2.2.1 129 7).1 = (V3.2.2.1 129 7).1 from ((z31.n 129 7 rfl).trans ((z29.n 129 7 rfl).trans ((zza.n 129 7 rfl).trans (z4.n 129 7 rfl)))))]; omega) (by rw [(show (V31.2.2.1 129 8).1 = (V3.2.2.1 129 8).1 from ((z31.n 129 8 rfl).trans ((z29.n 129 8 rfl).trans ((zza.n 129 8 rfl).trans (z4.n 129 8 rfl)))))]; omega) (by rw [(show (V31.2.2.1 129 12).1 = (V3.2.2.1 129 12).1 from ((z31.n 129 12 rfl).trans ((z29.n 129 12 rfl).trans ((zza.n 129 12 rfl).trans (z4.n 129 12 rfl)))))]; omega)
      have hRE0 : RDE V33 m od Y es P f N 0 GW nf nm tm bs lv oid nw wa wn wi wk nb bo cl A (fun j => (S j, p j)) := ⟨_, _, _, _, _, _, fun j hj => by rw [(hRD1 j hj).1, (hRD1 j hj).2], hRD0⟩
      refine mw_go mu_g383 (k := 2) (f1 := (106, [(1, .inl (0 : Int32)), (0, .inr (.inr (some 0)))], [], Q33)) (C := []) rfl trivial ?_
      show mu_W _ _ (106, [(1, .inl (nI 0)), (0, .inr (.inr (some 0)))], [], Q33) _
      refine mw_sub (L' := [(1, .inl (nI 0)), (0, .inr (.inr (some 0)))]) (by simp) ?_
      refine mw_down (α := Nat × mu_H) (fun zs => (106, [(1, .inl (nI zs.1)), (0, .inr (.inr (some 0)))], [], zs.2)) (fun zs => pd f 0 P - zs.1) (fun zs => um m zs.2 ∧ ur m C H zs.2 ∧ (uq F383b V33 (ud m zs.2)) ∧ (zs.1 ≤ pd f 0 P) ∧ (RDE (ud m zs.2) m od Y es P f N zs.1 GW nf nm tm bs lv oid nw wa wn wi wk nb bo cl A (fun j => (S j, p j)))) (fun zs hzb ihb => ?_) (0, Q33) ⟨u33, ht33, (show uq F383b V33 (ud m Q33) from by rw [d33]; exact uq.refl _ _), (show 0 ≤ pd f 0 P from (Nat.zero_le _)), (show RDE (ud m Q33) m od Y es P f N 0 GW nf nm tm bs lv oid nw wa wn wi wk nb bo cl A (fun j => (S j, p j)) from by rw [d33]; exact hRE0)⟩
      obtain ⟨q, Hsb⟩ := zs
      obtain ⟨ub, htb, db, hq, hRE⟩ := hzb
      have ub : um m Hsb := ub
      have htb : ur m C H Hsb := htb
      have zzb : uq F383b V33 (ud m Hsb) := db
      have hq : q ≤ pd f 0 P := hq
      have hRE : RDE (ud m Hsb) m od Y es P f N q GW nf nm tm bs lv oid nw wa wn wi wk nb bo cl A (fun j => (S j, p j)) := hRE
      obtain ⟨Vb, db⟩ : ∃ V, ud m Hsb = V := ⟨_, rfl⟩
      rw [db] at zzb hRE
      have qfb : uq F383 U Vb := qf33.tr zzb rfl
      show mu_W _ _ (106, [(1, .inl (nI q)), (0, .inr (.inr (some 0)))], [], Hsb) _
      refine mw_go mu_g383 (k := 3) (f1 := (111, [(1, .inl (nI q)), (0, .inr (.inr (some 0)))], [.inr (.inr (mu_r Hsb 0 8)), .inl (nI q)], Hsb)) (C := [mu_is Hsb (some 0) 0]) rfl (show mu_is Hsb (some 0) 0 from (ub.1.1.is rfl)) ?_
      rw [(ub.1.1.r (p := 0) (j := 8) (q := 99) rfl)]
      refine mw_go mu_g383 (k := 1) (f1 := (114, [(1, .inl (nI q)), (0, .inr (.inr (some 0)))], [.inl (mu_i Hsb 99 11), .inl (nI q)], Hsb)) (C := [mu_is Hsb (some 99) 13]) rfl (show mu_is Hsb (some 99) 13 from (ub.1.1.is rfl)) ?_
      rw [(show mu_i Hsb 99 11 = (nI (pd f 0 P)) from (ud_i (U := Vb) (m := m) (P := 99) (j := 11) db rfl).trans ((zzb.i 99 11 rfl).trans ((z33.i 99 11 rfl).trans ((z32.i 99 11 rfl).trans ((z31.i 99 11 rfl).trans ((z29.i 99 11 rfl).trans ((zza.i 99 11 rfl).trans ((z4.i 99 11 rfl).trans ((z3.i 99 11 rfl).trans ((z2.i 99 11 rfl).trans hT11))))))))))]
      refine mw_if (P := (nI q) < (nI (pd f 0 P))) (a := 117) (b := 147) (fun _ => rfl) trivial (fun h34 => ?_) (fun h34 => ?_)
      · -- 117: (nI q) < (nI (pd f 0 P))
        have nh34 : q < (pd f 0 P) := (nI_ltI (by omega) (by omega)).mp (show nI q < nI (pd f 0 P) from h34)
        refine mw_go mu_g383 (k := 2) (f1 := (121, [(1, .inl (nI q)), (0, .inr (.inr (some 0)))], [.inr (.inr (mu_r Hsb 0 9))], Hsb)) (C := [mu_is Hsb (some 0) 0]) rfl (show mu_is Hsb (some 0) 0 from (ub.1.1.is rfl)) ?_
        rw [(ub.1.1.r (p := 0) (j := 9) (q := 129) rfl)]
        refine mw_go mu_g383 (k := 1) (f1 := (122, [(1, .inl (nI q)), (0, .inr (.inr (some 0)))], [.inl (nI q), .inr (.inr (some 129))], Hsb)) (C := []) rfl trivial ?_
        refine mw_cI (fun _ => rfl) (show mu_is Hsb (some 129) 9 from (ub.1.1.is rfl)) (rl_findD (d := (d + 18)) (C := C) ub db hRE (by omega)) (fun x35 Q35 q35 => ?_)
        rcases q35 with ⟨u35, r35, z35, ⟨rfl, hRE1⟩ | ⟨rfl, hal, hVu⟩⟩
        · -- (1 : Int32)
          have ht35 : ur m C H Q35 := htb.trans r35
          obtain ⟨V35, d35⟩ : ∃ V, ud m Q35 = V := ⟨_, rfl⟩
          rw [d35] at z35 hRE1
          have qf35 : uq F383 U V35 := qfb.tr z35 rfl
          refine mw_if (P := (1 : Int32) = 0) (a := 128) (b := 141) (fun _ => rfl) trivial (fun h36 => absurd h36 (by decide)) (fun h36 => ?_)
          refine mw_go mu_g383 (k := 1) (f1 := (144, [(1, .inl ((nI q) + 1)), (0, .inr (.inr (some 0)))], [], Q35)) (C := []) rfl trivial ?_
          rw [(show ((nI q) + 1) = (nI (q + 1)) from (nI_add q 1))]
          refine mw_go mu_g383 (k := 1) (f1 := (106, [(1, .inl (nI (q + 1))), (0, .inr (.inr (some 0)))], [], Q35)) (C := []) rfl trivial ?_
          exact mw_sub (by simp) (ihb (q + 1, Q35) ⟨u35, ht35, (show uq F383b V33 (ud m Q35) from by rw [d35]; exact (zzb.tr z35 rfl)), (show (q + 1) ≤ pd f 0 P from (by omega)), (show RDE (ud m Q35) m od Y es P f N (q + 1) GW nf nm tm bs lv oid nw wa wn wi wk nb bo cl A (fun j => (S j, p j)) from by rw [d35]; exact hRE1)⟩ (by show pd f 0 P - (q + 1) < pd f 0 P - q; omega))
        · -- (0 : Int32)
          have ht35 : ur m C H Q35 := htb.trans r35
          obtain ⟨V35, d35⟩ : ∃ V, ud m Q35 = V := ⟨_, rfl⟩
          rw [d35] at z35 hVu
          have qf35 : uq F383 U V35 := qfb.tr z35 rfl
          obtain ⟨N5, us5, S5, z5x, p5, ro5, hOx, hRX⟩ := hRE
          refine mw_if (P := (0 : Int32) = 0) (a := 128) (b := 141) (fun _ => rfl) trivial (fun h37 => ?_) (fun h37 => absurd (by decide) h37)
          refine mw_go mu_g383 (k := 2) (f1 := (130, [(1, .inl (nI q)), (0, .inr (.inr (some 0)))], [.inl (nI q), .inr (.inr (some 0))], Q35)) (C := []) rfl trivial ?_
          refine mw_cV (fun _ => rfl) (show mu_is Q35 (some 0) 0 from (u35.1.1.is rfl)) (pv_mrowD (d := d) (C := C) u35 d35 hVu hRX (by omega) hC21 hC21b) (fun Q38 q38 => ?_)
          obtain ⟨u38, r38, z38, hRSm, nn, h11m, hLSm⟩ := q38
          have ht38 : ur m C H Q38 := ht35.trans r38
          obtain ⟨V38, d38⟩ : ∃ V, ud m Q38 = V := ⟨_, rfl⟩
          rw [d38] at z38 hRSm h11m hLSm
          have qf38 : uq F383 U V38 := qf35.tr z38 rfl
          have zMR := z38
          refine mw_go mu_g383 (k := 2) (f1 := (137, [(1, .inl (nI q)), (0, .inr (.inr (some 0)))], [.inr (.inr (mu_r Q38 0 9))], Q38)) (C := [mu_is Q38 (some 0) 0]) rfl (show mu_is Q38 (some 0) 0 from (u38.1.1.is rfl)) ?_
          rw [(u38.1.1.r (p := 0) (j := 9) (q := 129) rfl)]
          refine mw_go mu_g383 (k := 1) (f1 := (138, [(1, .inl (nI q)), (0, .inr (.inr (some 0)))], [.inl (nI q), .inr (.inr (some 129))], Q38)) (C := []) rfl trivial ?_
          refine mw_cV (fun _ => rfl) (show mu_is Q38 (some 129) 9 from (u38.1.1.is rfl)) (rl_keepD (d := (d + 15)) (C := C) u38 d38 hVu hRX (by omega) hal zMR hRSm h11m hLSm (by omega) hOx) (fun Q39 q39 => ?_)
          obtain ⟨u39, r39, z39, hRE1⟩ := q39
          have ht39 : ur m C H Q39 := ht38.trans r39
          obtain ⟨V39, d39⟩ : ∃ V, ud m Q39 = V := ⟨_, rfl⟩
          rw [d39] at z39 hRE1
          have qf39 : uq F383 U V39 := qf38.tr z39 rfl
          refine mw_go mu_g383 (k := 1) (f1 := (144, [(1, .inl ((nI q) + 1)), (0, .inr (.inr (some 0)))], [], Q39)) (C := []) rfl trivial ?_
          rw [(show ((nI q) + 1) = (nI (q + 1)) from (nI_add q 1))]
          refine mw_go mu_g383 (k := 1) (f1 := (106, [(1, .inl (nI (q + 1))), (0, .inr (.inr (some 0)))], [], Q39)) (C := []) rfl trivial ?_
          exact mw_sub (by simp) (ihb (q + 1, Q39) ⟨u39, ht39, (show uq F383b V33 (ud m Q39) from by rw [d39]; exact (((zzb.tr z35 rfl).tr z38 rfl).tr z39 rfl)), (show (q + 1) ≤ pd f 0 P from (by omega)), (show RDE (ud m Q39) m od Y es P f N (q + 1) GW nf nm tm bs lv oid nw wa wn wi wk nb bo cl A (fun j => (S j, p j)) from by rw [d39]; exact hRE1)⟩ (by show pd f 0 P - (q + 1) < pd f 0 P - q; omega))
      · -- 147: not (nI q) < (nI (pd f 0 P))
        have nh34 : ¬ q < (pd f 0 P) := fun z => h34 (show nI q < nI (pd f 0 P) from (nI_ltI (by omega) (by omega)).mpr z)
        have hSPX : spx m Vb P f := by obtain ⟨N6, us6, S6, z6x, p6, ro6, hOx6, hRX6⟩ := hRE; exact hRX6.1.1.1.1
        refine mw_go mu_g383 (k := 2) (f1 := (151, [(1, .inl (nI q)), (0, .inr (.inr (some 0)))], [.inr (.inr (mu_r Hsb 0 10))], Hsb)) (C := [mu_is Hsb (some 0) 0]) rfl (show mu_is Hsb (some 0) 0 from (ub.1.1.is rfl)) ?_
        rw [(ub.1.1.r (p := 0) (j := 10) (q := 147) rfl)]
        have hqT : q = pd f 0 P := by omega
        rw [hqT] at hRE
        have hRE2 := hRE
        obtain ⟨N5, us5, S5, z5x, p5, ro5, hRX5, hS5, hN5, hf5, ⟨hf5a, hf5b⟩, hr0, hO5, hrr⟩ := hRE2.all
        refine mw_cV (fun _ => rfl) (show mu_is Hsb (some 147) 2 from (ub.1.1.is rfl)) (gr_begin (d := (d + 17)) (C := C) (T := pd f 0 P) (N := N5) (fb := N) (R := N5 - N) (rx := ro5) ub db hSPX rfl hN5 hf5 (by omega) rfl hf5b (fun s hs => ⟨(hrr s hs).1, (hrr s hs).2.1⟩) (by rw [(show (Vb.2.2.1 129 6).1 = (V3.2.2.1 129 6).1 from ((zzb.n 129 6 rfl).trans ((z33.n 129 6 rfl).trans ((z32.n 129 6 rfl).trans ((z31.n 129 6 rfl).trans ((z29.n 129 6 rfl).trans ((zza.n 129 6 rfl).trans (z4.n 129 6 rfl))))))))]; omega) (by rw [(show (Vb.2.2.1 129 6).1 = (V3.2.2.1 129 6).1 from ((zzb.n 129 6 rfl).trans ((z33.n 129 6 rfl).trans ((z32.n 129 6 rfl).trans ((z31.n 129 6 rfl).trans ((z29.n 129 6 rfl).trans ((zza.n 129 6 rfl).trans (z4.n 129 6 rfl))))))))]; omega) (by rw [(show (Vb.2.2.1 147 10).1 = (U.2.2.1 147 10).1 from ((zzb.n 147 10 rfl).trans ((z33.n 147 10 rfl).trans ((z32.n 147 10 rfl).trans ((z31.n 147 10 rfl).trans ((z29.n 147 10 rfl).trans ((zza.n 147 10 rfl).trans ((z4.n 147 10 rfl).trans ((z3.n 147 10 rfl).trans (z2.n 147 10 rfl))))))))))]; exact hg10) (by rw [(show (Vb.2.2.1 147 11).1 = (U.2.2.1 147 11).1 from ((zzb.n 147 11 rfl).trans ((z33.n 147 11 rfl).trans ((z32.n 147 11 rfl).trans ((z31.n 147 11 rfl).trans ((z29.n 147 11 rfl).trans ((zza.n 147 11 rfl).trans ((z4.n 147 11 rfl).trans ((z3.n 147 11 rfl).trans (z2.n 147 11 rfl))))))))))]; exact hg11) (by rw [(show (Vb.2.2.1 147 12).1 = (U.2.2.1 147 12).1 from ((zzb.n 147 12 rfl).trans ((z33.n 147 12 rfl).trans ((z32.n 147 12 rfl).trans ((z31.n 147 12 rfl).trans ((z29.n 147 12 rfl).trans ((zza.n 147 12 rfl).trans ((z4.n 147 12 rfl).trans ((z3.n 147 12 rfl).trans (z2.n 147 12 rfl))))))))))]; exact hg12) (by rw [(show (Vb.2.2.1 147 13).1 = (U.2.2.1 147 13).1 from ((zzb.n 147 13 rfl).trans ((z33.n 147 13 rfl).trans ((z32.n 147 13 rfl).trans ((z31.n 147 13 rfl).trans ((z29.n 147 13 rfl).trans ((zza.n 147 13 rfl).trans ((z4.n 147 13 rfl).trans ((z3.n 147 13 rfl).trans (z2.n 147 13 rfl))))))))))]; exact hg13)) (fun Q40 q40 => ?_)
        obtain ⟨u40, r40, z40, hw15, ⟨ha10, hn10, ha11, hn11, ha12, hn12, ha13, hn13⟩, hmb1, hmb2⟩ := q40
        have ht40 : ur m C H Q40 := htb.trans r40
        obtain ⟨V40, d40⟩ : ∃ V, ud m Q40 = V := ⟨_, rfl⟩
        rw [d40] at z40 hw15 ha10 hn10 ha11 hn11 ha12 hn12 ha13 hn13 hmb1 hmb2
        have qf40 : uq F383 U V40 := qfb.tr z40 rfl
        have zGB := z40
        have ho10 := lwh_le hn10
        have ho11 := lwh_le hn11
        have ho12 := lwh_le hn12
        have ho13 := lwh_le hn13
        refine mw_go mu_g383 (k := 2) (f1 := (158, [(1, .inl (nI q)), (0, .inr (.inr (some 0)))], [.inr (.inr (mu_r Q40 0 11))], Q40)) (C := [mu_is Q40 (some 0) 0]) rfl (show mu_is Q40 (some 0) 0 from (u40.1.1.is rfl)) ?_
        rw [(u40.1.1.r (p := 0) (j := 11) (q := 158) rfl)]
        refine mw_cV (fun _ => rfl) (show mu_is Q40 (some 158) 8 from (u40.1.1.is rfl)) (pv_explore (d := (d + 15)) (C := C) (wn := (pd f 0 P + 63) / 64) (T := pd f 0 P) (R := N5 - N) (N := N5) (fb := N) (rx := ro5) u40 d40 ((show (V40.2.1 99 12) = (Vb.2.1 99 12) from (z40.i 99 12 rfl)).trans hSPX.1.2.2.2) ((show (V40.2.1 99 11) = (Vb.2.1 99 11) from (z40.i 99 11 rfl)).trans hSPX.1.2.2.1) rfl hpd ((show (V40.2.1 113 2) = (Vb.2.1 113 2) from (z40.i 113 2 rfl)).trans hN5) ((show (V40.2.1 113 8) = (Vb.2.1 113 8) from (z40.i 113 8 rfl)).trans hf5) (by omega) rfl (by omega) (by omega) (by omega) (by omega) (by rw [(show (V40.2.2.1 129 6).1 = (V3.2.2.1 129 6).1 from ((z40.n 129 6 rfl).trans ((zzb.n 129 6 rfl).trans ((z33.n 129 6 rfl).trans ((z32.n 129 6 rfl).trans ((z31.n 129 6 rfl).trans ((z29.n 129 6 rfl).trans ((zza.n 129 6 rfl).trans (z4.n 129 6 rfl)))))))))]; omega) (by rw [(show (V40.2.2.1 129 6).1 = (V3.2.2.1 129 6).1 from ((z40.n 129 6 rfl).trans ((zzb.n 129 6 rfl).trans ((z33.n 129 6 rfl).trans ((z32.n 129 6 rfl).trans ((z31.n 129 6 rfl).trans ((z29.n 129 6 rfl).trans ((zza.n 129 6 rfl).trans (z4.n 129 6 rfl)))))))))]; omega) (by rw [(show (V40.2.2.1 129 6) = (Vb.2.2.1 129 6) from (z40.a 129 6 rfl))]; exact fun s hs => ⟨(hrr s hs).1, (hrr s hs).2.1⟩)) (fun Q41 q41 => ?_)
        obtain ⟨u41, r41, z41, hres⟩ := q41
        have ht41 : ur m C H Q41 := ht40.trans r41
        obtain ⟨V41, d41⟩ : ∃ V, ud m Q41 = V := ⟨_, rfl⟩
        rw [d41] at z41 hres
        have qf41 : uq F383 U V41 := qf40.tr z41 rfl
        have zPE := z41
        refine mw_of (fun _ => mu_ret rfl trivial ⟨Q41, rfl, u41, ht41, (by rw [d41]; exact qf41), ?_⟩)
        rw [d41]
        have hFRO : FRO Vb m U Y P f od es N (fun j => (S j, p j)) := ⟨kN, V2, kS, kp, hKW, ⟨(show (Vb.2.1 99 19) = (V2.2.1 99 19) from ((zzb.i 99 19 rfl).trans ((z33.i 99 19 rfl).trans ((z32.i 99 19 rfl).trans ((z31.i 99 19 rfl).trans ((z29.i 99 19 rfl).trans ((zza.i 99 19 rfl).trans ((z4.i 99 19 rfl).trans (z3.i 99 19 rfl))))))))).trans hk19, (show (Vb.1 16) = (V2.1 16) from ((zzb.t 16 rfl).trans ((z33.t 16 rfl).trans ((z32.t 16 rfl).trans ((z31.t 16 rfl).trans ((z29.t 16 rfl).trans ((zza.t 16 rfl).trans ((z4.t 16 rfl).trans (z3.t 16 rfl))))))))), (show (Vb.2.2.2.2.1 124) = (V2.2.2.2.2.1 124) from ((zzb.l 124 rfl).trans ((z33.l 124 rfl).trans ((z32.l 124 rfl).trans ((z31.l 124 rfl).trans ((z29.l 124 rfl).trans ((zza.l 124 rfl).trans ((z4.l 124 rfl).trans (z3.l 124 rfl))))))))), (show (Vb.2.2.2.2.1 125) = (V2.2.2.2.2.1 125) from ((zzb.l 125 rfl).trans ((z33.l 125 rfl).trans ((z32.l 125 rfl).trans ((z31.l 125 rfl).trans ((z29.l 125 rfl).trans ((zza.l 125 rfl).trans ((z4.l 125 rfl).trans (z3.l 125 rfl)))))))))⟩, hn4.2.1, hn4.2.2, hkfr, hkN.2⟩
        exact ⟨V3, Vb, V40, N, N5, ro5, GX, hGX, ⟨nf, nm, tm, bs, lv, oid, nw, wa, wn, wi, wk, nb, bo, cl, A, GW, _, hGw, ⟨us5, S5, z5x, p5, hO5, hRX5⟩, hFRO⟩, ⟨zGB, zPE⟩, ⟨ha10, hn10, ha11, hn11, ha12, hn12, ha13, hn13⟩, ⟨hmb1, hmb2⟩, hres⟩
    · -- (1 : Int32)
      have ht29 : ur m C H Q29 := hta.trans r29
      obtain ⟨V29, d29⟩ : ∃ V, ud m Q29 = V := ⟨_, rfl⟩
      rw [d29] at z29 hRSo hRo hszo hPCo hBo
      have qf29 : uq F383 U V29 := qfa.tr z29 rfl
      have hnbo : nb + 1 = i + 1 := by omega
      have hGo := hGa
      refine mw_if (P := (1 : Int32) = 0) (a := 83) (b := 56) (fun _ => rfl) trivial (fun h42 => absurd h42 (by decide)) (fun h42 => ?_)
      refine mw_go mu_g383 (k := 2) (f1 := (60, [(1, .inl (nI i)), (0, .inr (.inr (some 0)))], [.inr (.inr (mu_r Q29 0 9))], Q29)) (C := [mu_is Q29 (some 0) 0]) rfl (show mu_is Q29 (some 0) 0 from (u29.1.1.is rfl)) ?_
      rw [(u29.1.1.r (p := 0) (j := 9) (q := 129) rfl)]
      refine mw_cV (fun _ => rfl) (show mu_is Q29 (some 129) 9 from (u29.1.1.is rfl)) (rl_split (d := (d + 14)) (C := C) u29 d29 hRSo hPCo (by omega) (by omega) hC23b) (fun Q43 q43 => ?_)
      obtain ⟨u43, r43, z43, hszs, hPCs, hPNs⟩ := q43
      have ht43 : ur m C H Q43 := ht29.trans r43
      obtain ⟨V43, d43⟩ : ∃ V, ud m Q43 = V := ⟨_, rfl⟩
      rw [d43] at z43 hszs hPCs hPNs
      have qf43 : uq F383 U V43 := qf29.tr z43 rfl
      have hRSs := RSK.q hRSo z43 rfl rfl
      have hRGs := RLG.q hRo z43 rfl rfl
      have hszs2 : (V43.1 23).1 ≤ 2048 := Nat.le_trans hszs (Nat.max_le.mpr ⟨by omega, by omega⟩)
      refine mw_go mu_g383 (k := 2) (f1 := (67, [(1, .inl (nI i)), (0, .inr (.inr (some 0)))], [.inr (.inr (mu_r Q43 0 9))], Q43)) (C := [mu_is Q43 (some 0) 0]) rfl (show mu_is Q43 (some 0) 0 from (u43.1.1.is rfl)) ?_
      rw [(u43.1.1.r (p := 0) (j := 9) (q := 129) rfl)]
      refine mw_cV (fun _ => rfl) (show mu_is Q43 (some 129) 9 from (u43.1.1.is rfl)) (rl_equals (d := (d + 11)) (C := C) u43 d43 hRSs hRGs hPCs (by omega) (by omega) (by omega) (by omega) hC21 hC21b hC24 hC24b hC25 hC25b) (fun Q44 q44 => ?_)
      obtain ⟨u44, r44, z44, hRSe, hsze, hPCe, Ge, hRGe, hGe⟩ := q44
      have ht44 : ur m C H Q44 := ht43.trans r44
      obtain ⟨V44, d44⟩ : ∃ V, ud m Q44 = V := ⟨_, rfl⟩
      rw [d44] at z44 hRSe hsze hPCe hRGe hGe
      have qf44 : uq F383 U V44 := qf43.tr z44 rfl
      refine mw_go mu_g383 (k := 2) (f1 := (74, [(1, .inl (nI i)), (0, .inr (.inr (some 0)))], [.inr (.inr (mu_r Q44 0 9))], Q44)) (C := [mu_is Q44 (some 0) 0]) rfl (show mu_is Q44 (some 0) 0 from (u44.1.1.is rfl)) ?_
      rw [(u44.1.1.r (p := 0) (j := 9) (q := 129) rfl)]
      refine mw_cV (fun _ => rfl) (show mu_is Q44 (some 129) 9 from (u44.1.1.is rfl)) (rl_pieces (d := (d + 11)) (C := C) u44 d44 hRSe hRGe hPCe (by omega) (by omega) (by omega) (by omega) hC21 hC21b hC24 hC24b hC25 hC25b) (fun Q45 q45 => ?_)
      obtain ⟨u45, r45, z45, hRSp, h27p, Gp, hRGp, hGp⟩ := q45
      have ht45 : ur m C H Q45 := ht44.trans r45
      obtain ⟨V45, d45⟩ : ∃ V, ud m Q45 = V := ⟨_, rfl⟩
      rw [d45] at z45 hRSp h27p hRGp
      have qf45 : uq F383 U V45 := qf44.tr z45 rfl
      refine mw_go mu_g383 (k := 1) (f1 := (80, [(1, .inl ((nI i) + 1)), (0, .inr (.inr (some 0)))], [], Q45)) (C := []) rfl trivial ?_
      rw [(show ((nI i) + 1) = (nI (i + 1)) from (nI_add i 1))]
      refine mw_go mu_g383 (k := 1) (f1 := (36, [(1, .inl (nI (i + 1))), (0, .inr (.inr (some 0)))], [], Q45)) (C := []) rfl trivial ?_
      exact mw_sub (by simp) (iha (i + 1, Q45) ⟨u45, ht45, (show uq F383a V4 (ud m Q45) from by rw [d45]; exact ((((zza.tr z29 rfl).tr z43 rfl).tr z44 rfl).tr z45 rfl)), (show RSK m (ud m Q45) Y P f od es from by rw [d45]; exact hRSp), (show RJ (ud m Q45) V3 Y es P f od kN (fun j => (kS j, kp j)) kus GX (i + 1) from by rw [d45]; exact (by rw [show i + 1 = (nb + 1) by omega]; exact RJ.more (U := Va) (V1 := V29) (V2 := V43) (V3 := V44) (t1 := V43.1 23) (t2 := V44.1 23) hBo (by omega) ⟨(show (V29.1 15) = (Va.1 15) from (z29.t 15 rfl)), (show (V29.2.2.1 99 8) = (Va.2.2.1 99 8) from (z29.a 99 8 rfl))⟩ ⟨(show (V43.1 15) = (V29.1 15) from (z43.t 15 rfl)), (show (V43.2.2.1 99 8) = (V29.2.2.1 99 8) from (z43.a 99 8 rfl))⟩ ⟨(show (V44.1 15) = (V43.1 15) from (z44.t 15 rfl)), (show (V44.2.2.1 99 8) = (V43.2.2.1 99 8) from (z44.a 99 8 rfl))⟩ ⟨(show (V45.1 15) = (V44.1 15) from (z45.t 15 rfl)), (show (V45.2.2.1 99 8) = (V44.2.2.1 99 8) from (z45.a 99 8 rfl))⟩ hGo hPNs hGe hGp (show (V45.2.1 129 22) = (V29.2.1 129 22) from ((z45.i 129 22 rfl).trans ((z44.i 129 22 rfl).trans (z43.i 129 22 rfl)))) (by rw [← (show V44.1 27 = V29.1 27 from ((z44.t 27 rfl).trans (z43.t 27 rfl)))]; exact h27p) hRGp (by omega)))⟩ (by show 65536 - (i + 1) < 65536 - i; omega))
end Ready
