/-! GRAPH: a ring is gone round -/
/-- what the row that is laid out leads to around -/
def BNC (U : Ud) (T s : Nat) : Bool := decide (s < T) && (bts (U.2.2.2.2.1 146) s && bts (U.2.2.2.2.1 152) s)
def QNC (V U : Ud) (tl n : Nat) (ls : Nat → Nat) : Prop := V.2.1 147 18 = nI (tl + n) ∧ (∀ i, i < n → (V.2.2.1 147 12).2 (tl + i) = nI (ls i)) ∧ ∀ i, i < tl → (V.2.2.1 147 12).2 i = (U.2.2.1 147 12).2 i
def QNX (V U : Ud) (tl T : Nat) (w : Nat) : Prop := ∃ n ls, QNC V U tl n ls ∧ enw ls n (BNC U T) w
def QNI (V U : Ud) (tl T : Nat) (w : Nat) (lf : Int64) : Prop := ∃ n ls, QNC V U tl n ls ∧ inw ls n (BNC U T) w lf
/-- the first x of the queue are around -/
def ARQ (V : Ud) (qu : Nat → Nat) (wn x : Nat) : Prop := ∀ t, t < 64 * wn → (bts (V.2.2.2.2.1 152) t = true ↔ ∃ i, i < x ∧ qu i = t)
section Circle
variable {H : mu_H} {U V : Ud} {m d T R wn bf bt ls r k lv ga gi gq x t c p hd tl w n nf ab la dab lr : Nat} {C : Nat → Nat} {rx mb me pl qu q2 : Nat → Nat} {lf : Int64} {FS : Nat → Nat → Bool}
theorem bnc_q (hT : ∀ s, s < 16384 → bts (U.2.2.2.2.1 146) s = true → s < T) (hwt : w < 256) (q : Nat) (hq : q < 64) : btz (U.2.2.2.2.1 146 w &&& U.2.2.2.2.1 152 w) q = BNC U T (64 * w + q) := by
  have e1 : bts (U.2.2.2.2.1 146) (64 * w + q) = btz (U.2.2.2.2.1 146 w) q := by
    unfold bts
    rw [show (64 * w + q) / 64 = w by omega, show (64 * w + q) % 64 = q by omega]
  have e2 : bts (U.2.2.2.2.1 152) (64 * w + q) = btz (U.2.2.2.2.1 152 w) q := by
    unfold bts
    rw [show (64 * w + q) / 64 = w by omega, show (64 * w + q) % 64 = q by omega]
  unfold BNC
  rw [btz_and, ← e1, ← e2]
  cases hb : bts (U.2.2.2.2.1 146) (64 * w + q)
  · rw [Bool.false_and, Bool.and_false]
  · rw [decide_eq_true (hT _ (by omega) hb), Bool.true_and, Bool.true_and]
theorem bnc_is {s : Nat} : BNC U T s = true ↔ s < T ∧ bts (U.2.2.2.2.1 146) s = true ∧ bts (U.2.2.2.2.1 152) s = true := by
  unfold BNC
  rw [Bool.and_eq_true, decide_eq_true_iff, Bool.and_eq_true]
theorem in_in2 {l2 : Nat → Nat} (h : inw l2 n (BNC U T) w lf) : (∀ i j, i < j → j < n → l2 i < l2 j) ∧ ∀ i, i < n → BNC U T (l2 i) = true := by
  obtain ⟨h1, h2, h3⟩ := h
  refine ⟨h1, fun i hi => ?_⟩
  rcases (h2 (l2 i)).mp ⟨i, hi, rfl⟩ with y | y
  · exact y.2
  · exact y.2.2.1
/-- what is left of the nodes when a row has been settled and left -/
def CLV (V U : Ud) (p r lvx ab la dab lr : Nat) : Prop := (p = 0 ∧ ∀ j, (V.2.2.1 147 10).2 j = if j = r * 7 + 4 then nI lvx else (U.2.2.1 147 10).2 j) ∨ (0 < p ∧ ∀ j, (V.2.2.1 147 10).2 j = if j = ab * 7 + 4 then nI (if lvx % 2 = 1 ∧ dab % 2 = 0 then dab + 1 else dab) else if j = ab * 7 + 2 then nI (min la lr) else if j = r * 7 + 4 then nI lvx else (U.2.2.1 147 10).2 j)
theorem arq_step (h : ARQ V qu wn x) (hx : qu x < 16384) : ARQ (upL V 152 (qu x / 64) ((V.2.2.2.2.1 152) (qu x / 64) ||| ((1 : Int64) <<< ((nI (qu x)).toInt64 &&& 63)))) qu wn (x + 1) := fun t ht => by
  rw [upL_at, bts_seton (by omega), h t ht]
  constructor
  · rintro (⟨i, i1, i2⟩ | y)
    · exact ⟨i, by omega, i2⟩
    · exact ⟨x, by omega, y.symm⟩
  · rintro ⟨i, i1, i2⟩
    rcases Nat.lt_or_ge i x with y | y
    · exact Or.inl ⟨i, y, i2⟩
    · rw [show i = x by omega] at i2
      exact Or.inr i2.symm
def F327 : Uf := ⟨[], [(147, 14), (147, 15), (147, 16), (147, 17), (147, 18), (147, 20), (147, 21)], [(147, 10), (147, 12)], [], [152, 151, 148, 162], true⟩
def F327t : Uf := ⟨[], [(147, 14), (147, 16), (147, 20), (147, 21)], [(147, 10)], [], [152, 151, 148, 162], true⟩
/-- PathProver$Graph.circle()V -/
abbrev mu_m327 : ev_M := (5, none, [], ev_b327)
theorem mu_g327 : mu_good mu_m327 := mu_goodk ev_k327
def F327c : Uf := ⟨[], [], [], [], [152], false⟩
theorem gr_circleT {Φ : mu_R → Prop} (h : um m H) (e : ud m H = U) (hG : GRB U T R wn rx mb me) (hgl : LSN U ga gi gq 256) (hgo : U.2.2.2.1 147 8 = some gq) (hls : U.2.1 147 21 = nI ls) (hlsb : ls ≤ T + 1) (hpl : ∀ i, i < ls → (U.2.2.1 147 10).2 (i * 7 + 6) = nI (pl i) ∧ pl i < R) (hr : r < R) (hk1 : k < ls) (hk2 : pl k = r) (hk3 : ∀ i, k < i → i < ls → ¬ pl i = r) (hlv : (U.2.2.1 147 10).2 (r * 7 + 4) = nI lv) (hlv4 : lv < 4) (hlv0 : lv % 2 = 0) (hps : U.2.1 147 20 = nI (p + 1)) (hpb : p ≤ T) (hpa : (U.2.2.1 147 10).2 (p * 7 + 5) = nI r) (hab : 0 < p → (U.2.2.1 147 10).2 ((p - 1) * 7 + 5) = nI ab ∧ ab < R ∧ (U.2.2.1 147 10).2 (ab * 7 + 2) = nI la ∧ (U.2.2.1 147 10).2 (ab * 7 + 4) = nI dab ∧ ¬ ab = r) (hlab : la < 2147483648) (hda4 : dab < 4) (hlr : (U.2.2.1 147 10).2 (r * 7 + 2) = nI lr) (hlrb : lr < 2147483648) (hF : FST U nf T FS) (htail : U.2.1 147 18 = nI tl) (htlT : tl ≤ T) (hqu : ∀ i, i < tl → (U.2.2.1 147 12).2 i = nI (qu i) ∧ qu i < T) (hΦ : ∀ H1, (um m H1 ∧ ur m C H H1 ∧ uq F327t U (ud m H1) ∧ (ud m H1).2.1 147 14 = 5 ∧ (ud m H1).2.1 147 20 = nI p ∧ (ud m H1).2.1 147 21 = nI k ∧ (ud m H1).2.1 147 16 = 0 ∧ ∃ lvx, ((lvx = lv + 1 ∧ ∀ f, f < nf → ∃ i, i < tl ∧ FS f (qu i) = true) ∨ (lvx = lv ∧ ∃ f, f < nf ∧ ∀ i, i < tl → FS f (qu i) = false)) ∧ CLV (ud m H1) U p r lvx ab la dab lr ∧ GKP ga gi U (ud m H1) ∧ LSN (ud m H1) ga gi gq 256 ∧ ((∀ t, t < T → (bts ((ud m H1).2.2.2.2.1 151) t = true ↔ bts (U.2.2.2.2.1 151) t = true ∧ ¬ (bts (U.2.2.2.2.1 153) t = true ∧ SCC pl k ls (rx t)))) ∧ ∀ t, bts ((ud m H1).2.2.2.2.1 151) t = true → bts (U.2.2.2.2.1 151) t = true) ∧ (∀ t, t < T → (bts (lgf (ud m H1) ga gi) t = true ↔ bts (lgf U ga gi) t = true ∨ (lvx % 2 = 1 ∧ bts (U.2.2.2.2.1 153) t = true ∧ SCC pl k ls (rx t)))) ∧ ∀ t, bts (lgf (ud m H1) ga gi) t = true → bts (lgf U ga gi) t = true ∨ t < T) → Φ (.inl none, H1)) : mu_W (mu_D (d + 4)) mu_m327 (164, [(0, .inr (.inr (some 147)))], [], H) Φ := by
  obtain ⟨⟨⟨hg12, hg11⟩, hgwn, hTb⟩, ⟨⟨g6a, g6b⟩, hrx⟩, ⟨hRT, g10a, g10b⟩, ⟨g11a, g11b⟩, ⟨g12a, g12b⟩, ⟨g13a, g13b⟩, hmb, hme, hmp1, hmp2, hmp3, hmp4⟩ := id hG
  have hwnb : wn ≤ 256 := by omega
  refine mw_go mu_g327 (k := 3) (f1 := (169, [(0, .inr (.inr (some 147)))], [], (mu_si H 147 16 (0 : Int32)))) (C := [mu_is H (some 147) 2]) rfl (show mu_is H (some 147) 2 from (h.1.1.is rfl)) ?_
  obtain ⟨u1, r1, d1⟩ : um m (mu_si H 147 16 (0 : Int32)) ∧ ur m C H (mu_si H 147 16 (0 : Int32)) ∧ ud m (mu_si H 147 16 (0 : Int32)) = (upI U 147 16 (0 : Int32)) := h.sI (C := C) e rfl
  generalize (mu_si H 147 16 (0 : Int32)) = Q1 at u1 r1 d1 ⊢
  have qf1 : uq F327t U (upI U 147 16 (0 : Int32)) := (uq.refl F327t U).I rfl
  have ht1 : ur m C H Q1 := (ur.refl m C H).trans r1
  refine mw_go mu_g327 (k := 2) (f1 := (173, [(0, .inr (.inr (some 147)))], [.inr (.inr (mu_r Q1 147 6))], Q1)) (C := [mu_is Q1 (some 147) 2]) rfl (show mu_is Q1 (some 147) 2 from (u1.1.1.is rfl)) ?_
  rw [(u1.1.1.r (p := 147) (j := 6) (q := 152) rfl)]
  refine mw_go mu_g327 (k := 3) (f1 := (178, [(0, .inr (.inr (some 147)))], [.inr (.inr (mu_r Q1 147 0)), .inl (0 : Int32), .inr (.inr (some 152))], Q1)) (C := [mu_is Q1 (some 147) 2]) rfl (show mu_is Q1 (some 147) 2 from (u1.1.1.is rfl)) ?_
  rw [(u1.1.1.r (p := 147) (j := 0) (q := 99) rfl)]
  refine mw_go mu_g327 (k := 1) (f1 := (181, [(0, .inr (.inr (some 147)))], [.inl (mu_i Q1 99 12), .inl (0 : Int32), .inr (.inr (some 152))], Q1)) (C := [mu_is Q1 (some 99) 13]) rfl (show mu_is Q1 (some 99) 13 from (u1.1.1.is rfl)) ?_
  rw [(show mu_i Q1 99 12 = (nI wn) from (ud_i (U := (upI U 147 16 (0 : Int32))) (m := m) (P := 99) (j := 12) d1 rfl).trans hg12)]
  refine mw_go mu_g327 (k := 1) (f1 := (182, [(0, .inr (.inr (some 147)))], [.inr (.inl (0 : Int64)), .inl (nI wn), .inl (0 : Int32), .inr (.inr (some 152))], Q1)) (C := []) rfl trivial ?_
  refine mw_cV (fun _ => rfl) trivial ((ar_fillL_ok (d := (d + 2)) (v := (0 : Int64)) (a := 0) (b := wn) ((u1.1.1.a (p := 152) (x := (102, 256)) rfl).1) (by omega) (by rw [show mu_n Q1 (mu_p (some 152)) = 256 from (u1.1.1.a (p := 152) (x := (102, 256)) rfl).2]; omega) (by rw [show mu_n Q1 (mu_p (some 152)) = 256 from (u1.1.1.a (p := 152) (x := (102, 256)) rfl).2]; decide)).imp (fun Hx qx => show um m Hx ∧ ur m C Q1 Hx ∧ ud m Hx = (upM (upI U 147 16 (0 : Int32)) 152 0 (fun _ => (0 : Int64)) (wn - 0)) by rw [qx]; exact u1.fL (C := C) d1 rfl)) (fun Q2 q2 => ?_)
  obtain ⟨u2, r2, d2⟩ := q2
  have ht2 : ur m C H Q2 := ht1.trans r2
  have qf2 : uq F327t U (upM (upI U 147 16 (0 : Int32)) 152 0 (fun _ => (0 : Int64)) (wn - 0)) := qf1.M rfl
  refine mw_go mu_g327 (k := 2) (f1 := (187, [(1, .inl (0 : Int32)), (0, .inr (.inr (some 147)))], [], Q2)) (C := []) rfl trivial ?_
  show mu_W _ _ (187, [(1, .inl (nI 0)), (0, .inr (.inr (some 147)))], [], Q2) _
  refine mw_sub (L' := [(1, .inl (nI 0)), (0, .inr (.inr (some 147)))]) (by simp) ?_
  refine mw_down (α := Nat × mu_H) (fun zs => (187, [(1, .inl (nI zs.1)), (0, .inr (.inr (some 147)))], [], zs.2)) (fun zs => tl - zs.1) (fun zs => um m zs.2 ∧ ur m C H zs.2 ∧ (uq F327c (upM (upI U 147 16 (0 : Int32)) 152 0 (fun _ => (0 : Int64)) (wn - 0)) (ud m zs.2)) ∧ (zs.1 ≤ tl) ∧ (ARQ (ud m zs.2) qu wn zs.1)) (fun zs hzc ihc => ?_) (0, Q2) ⟨u2, ht2, (show uq F327c (upM (upI U 147 16 (0 : Int32)) 152 0 (fun _ => (0 : Int64)) (wn - 0)) (ud m Q2) from by rw [d2]; exact uq.refl _ _), (show 0 ≤ tl from (Nat.zero_le _)), (show ARQ (ud m Q2) qu wn 0 from by rw [d2]; exact (fun t ht => ⟨fun y => (by have y2 : btz (if 152 = 152 ∧ 0 ≤ t / 64 ∧ t / 64 < 0 + (wn - 0) then (0 : Int64) else U.2.2.2.2.1 152 (t / 64)) (t % 64) = true := y; rw [if_pos ⟨rfl, by omega, by omega⟩, btz_0] at y2; cases y2), fun ⟨i, hi, _⟩ => absurd hi (Nat.not_lt_zero i)⟩))⟩
  obtain ⟨x, Hsc⟩ := zs
  obtain ⟨uc, htc, dc, hxq, hAR⟩ := hzc
  have uc : um m Hsc := uc
  have htc : ur m C H Hsc := htc
  have zzc : uq F327c (upM (upI U 147 16 (0 : Int32)) 152 0 (fun _ => (0 : Int64)) (wn - 0)) (ud m Hsc) := dc
  have hxq : x ≤ tl := hxq
  have hAR : ARQ (ud m Hsc) qu wn x := hAR
  obtain ⟨Vc, dc⟩ : ∃ V, ud m Hsc = V := ⟨_, rfl⟩
  rw [dc] at zzc hAR
  have qfc : uq F327t U Vc := qf2.tr zzc rfl
  show mu_W _ _ (187, [(1, .inl (nI x)), (0, .inr (.inr (some 147)))], [], Hsc) _
  refine mw_go mu_g327 (k := 3) (f1 := (192, [(1, .inl (nI x)), (0, .inr (.inr (some 147)))], [.inl (mu_i Hsc 147 18), .inl (nI x)], Hsc)) (C := [mu_is Hsc (some 147) 2]) rfl (show mu_is Hsc (some 147) 2 from (uc.1.1.is rfl)) ?_
  rw [(show mu_i Hsc 147 18 = (nI tl) from (ud_i (U := Vc) (m := m) (P := 147) (j := 18) dc rfl).trans ((zzc.i 147 18 rfl).trans htail))]
  refine mw_if (P := (nI x) < (nI tl)) (a := 195) (b := 226) (fun _ => rfl) trivial (fun h3 => ?_) (fun h3 => ?_)
  · -- 195: (nI x) < (nI tl)
    have nh3 : x < tl := (nI_ltI (by omega) (by omega)).mp (show nI x < nI tl from h3)
    refine mw_go mu_g327 (k := 2) (f1 := (199, [(1, .inl (nI x)), (0, .inr (.inr (some 147)))], [.inr (.inr (mu_r Hsc 147 6))], Hsc)) (C := [mu_is Hsc (some 147) 2]) rfl (show mu_is Hsc (some 147) 2 from (uc.1.1.is rfl)) ?_
    rw [(uc.1.1.r (p := 147) (j := 6) (q := 152) rfl)]
    refine mw_go mu_g327 (k := 2) (f1 := (203, [(1, .inl (nI x)), (0, .inr (.inr (some 147)))], [.inr (.inr (mu_r Hsc 147 12)), .inr (.inr (some 152))], Hsc)) (C := [mu_is Hsc (some 147) 2]) rfl (show mu_is Hsc (some 147) 2 from (uc.1.1.is rfl)) ?_
    rw [(show mu_r Hsc 147 12 = (U.2.2.2.1 147 12) from (ud_q (U := Vc) (m := m) (P := 147) (j := 12) dc rfl).trans (zzc.r 147 12 rfl))]
    refine mw_go mu_g327 (k := 2) (f1 := (205, [(1, .inl (nI x)), (0, .inr (.inr (some 147)))], [.inl (mu_i Hsc (mu_p (U.2.2.2.1 147 12)) (nI x).toNatClampNeg), .inr (.inr (some 152))], Hsc)) (C := [mu_isr Hsc (U.2.2.2.1 147 12) 100, vp_in (nI x) (mu_n Hsc (mu_p (U.2.2.2.1 147 12)))]) rfl (show (mu_isr Hsc (U.2.2.2.1 147 12) 100) ∧ (vp_in (nI x) (mu_n Hsc (mu_p (U.2.2.2.1 147 12)))) from ⟨((uc.iA dc rfl rfl (show Vc.2.2.2.1 147 12 = (U.2.2.2.1 147 12) from (zzc.r 147 12 rfl)))).r, (uc.vA (i := x) dc rfl rfl (show Vc.2.2.2.1 147 12 = (U.2.2.2.1 147 12) from (zzc.r 147 12 rfl)) (show (Vc.2.2.1 147 12).1 = (U.2.2.1 147 12).1 from (zzc.n 147 12 rfl)) (by omega) (by omega))⟩) ?_
    rw [(show (mu_i Hsc (mu_p (U.2.2.2.1 147 12)) (nI x).toNatClampNeg) = (nI (qu x)) from ((congrArg (mu_i Hsc (mu_p (U.2.2.2.1 147 12))) (show (nI x).toNatClampNeg = x from nI_clamp (by omega))).trans (uc.gA dc rfl rfl (show Vc.2.2.2.1 147 12 = (U.2.2.2.1 147 12) from (zzc.r 147 12 rfl)))).trans ((congrArg (fun z => z.2 x) (show Vc.2.2.1 147 12 = (U.2.2.1 147 12) from (zzc.a 147 12 rfl))).trans (hqu x (by omega)).1))]
    have hqx : qu x < T := (hqu x (by omega)).2
    refine mw_go mu_g327 (k := 2) (f1 := (208, [(1, .inl (nI x)), (0, .inr (.inr (some 147)))], [.inl ((nI (qu x)) >>> ((6 : Int32) &&& 31)), .inr (.inr (some 152))], Hsc)) (C := []) rfl trivial ?_
    rw [(show ((nI (qu x)) >>> ((6 : Int32) &&& 31)) = (nI ((qu x) / 64)) from (nI_shr6 (a := qu x) (by omega)))]
    refine mw_go mu_g327 (k := 2) (f1 := (210, [(1, .inl (nI x)), (0, .inr (.inr (some 147)))], [.inr (.inl (mu_l Hsc 152 (nI ((qu x) / 64)).toNatClampNeg)), .inl (nI ((qu x) / 64)), .inr (.inr (some 152))], Hsc)) (C := [mu_isr Hsc (some 152) 102, vp_in (nI ((qu x) / 64)) (mu_n Hsc 152)]) rfl (show (mu_isr Hsc (some 152) 102) ∧ (vp_in (nI ((qu x) / 64)) (mu_n Hsc 152)) from ⟨((uc.1.1.a (p := 152) (x := (102, 256)) rfl).1).r, (by rw [show mu_n Hsc 152 = 256 from (uc.1.1.a (p := 152) (x := (102, 256)) rfl).2]; exact vp_in_nI (n := (qu x) / 64) (by omega) (by decide))⟩) ?_
    rw [(show (mu_l Hsc 152 (nI ((qu x) / 64)).toNatClampNeg) = (Vc.2.2.2.2.1 152) ((qu x) / 64) from (congrArg (mu_l Hsc 152) (show (nI ((qu x) / 64)).toNatClampNeg = (qu x) / 64 from nI_clamp (by omega))).trans ((ud_l (m := m) (p := 152) (i := ((qu x) / 64)) dc rfl).trans (congrFun (show Vc.2.2.2.2.1 152 = (Vc.2.2.2.2.1 152) from rfl) ((qu x) / 64))))]
    refine mw_go mu_g327 (k := 3) (f1 := (215, [(1, .inl (nI x)), (0, .inr (.inr (some 147)))], [.inr (.inr (mu_r Hsc 147 12)), .inr (.inl (1 : Int64)), .inr (.inl ((Vc.2.2.2.2.1 152) ((qu x) / 64))), .inl (nI ((qu x) / 64)), .inr (.inr (some 152))], Hsc)) (C := [mu_is Hsc (some 147) 2]) rfl (show mu_is Hsc (some 147) 2 from (uc.1.1.is rfl)) ?_
    rw [(show mu_r Hsc 147 12 = (U.2.2.2.1 147 12) from (ud_q (U := Vc) (m := m) (P := 147) (j := 12) dc rfl).trans (zzc.r 147 12 rfl))]
    refine mw_go mu_g327 (k := 2) (f1 := (217, [(1, .inl (nI x)), (0, .inr (.inr (some 147)))], [.inl (mu_i Hsc (mu_p (U.2.2.2.1 147 12)) (nI x).toNatClampNeg), .inr (.inl (1 : Int64)), .inr (.inl ((Vc.2.2.2.2.1 152) ((qu x) / 64))), .inl (nI ((qu x) / 64)), .inr (.inr (some 152))], Hsc)) (C := [mu_isr Hsc (U.2.2.2.1 147 12) 100, vp_in (nI x) (mu_n Hsc (mu_p (U.2.2.2.1 147 12)))]) rfl (show (mu_isr Hsc (U.2.2.2.1 147 12) 100) ∧ (vp_in (nI x) (mu_n Hsc (mu_p (U.2.2.2.1 147 12)))) from ⟨((uc.iA dc rfl rfl (show Vc.2.2.2.1 147 12 = (U.2.2.2.1 147 12) from (zzc.r 147 12 rfl)))).r, (uc.vA (i := x) dc rfl rfl (show Vc.2.2.2.1 147 12 = (U.2.2.2.1 147 12) from (zzc.r 147 12 rfl)) (show (Vc.2.2.1 147 12).1 = (U.2.2.1 147 12).1 from (zzc.n 147 12 rfl)) (by omega) (by omega))⟩) ?_
    rw [(show (mu_i Hsc (mu_p (U.2.2.2.1 147 12)) (nI x).toNatClampNeg) = (nI (qu x)) from ((congrArg (mu_i Hsc (mu_p (U.2.2.2.1 147 12))) (show (nI x).toNatClampNeg = x from nI_clamp (by omega))).trans (uc.gA dc rfl rfl (show Vc.2.2.2.1 147 12 = (U.2.2.2.1 147 12) from (zzc.r 147 12 rfl)))).trans ((congrArg (fun z => z.2 x) (show Vc.2.2.1 147 12 = (U.2.2.1 147 12) from (zzc.a 147 12 rfl))).trans (hqu x (by omega)).1))]
    have hqx : qu x < T := (hqu x (by omega)).2
    refine mw_go mu_g327 (k := 3) (f1 := (220, [(1, .inl (nI x)), (0, .inr (.inr (some 147)))], [], (mu_sl Hsc 152 (nI ((qu x) / 64)).toNatClampNeg (((Vc.2.2.2.2.1 152) ((qu x) / 64)) ||| ((1 : Int64) <<< ((nI (qu x)).toInt64 &&& 63)))))) (C := [mu_is Hsc (some 152) 102, vp_in (nI ((qu x) / 64)) (mu_n Hsc 152)]) rfl (show (mu_is Hsc (some 152) 102) ∧ (vp_in (nI ((qu x) / 64)) (mu_n Hsc 152)) from ⟨((uc.1.1.a (p := 152) (x := (102, 256)) rfl).1), (by rw [show mu_n Hsc 152 = 256 from (uc.1.1.a (p := 152) (x := (102, 256)) rfl).2]; exact vp_in_nI (n := (qu x) / 64) (by omega) (by decide))⟩) ?_
    rw [(show (nI ((qu x) / 64)).toNatClampNeg = (qu x) / 64 from nI_clamp (by omega))]
    obtain ⟨u4, r4, d4⟩ : um m (mu_sl Hsc 152 ((qu x) / 64) (((Vc.2.2.2.2.1 152) ((qu x) / 64)) ||| ((1 : Int64) <<< ((nI (qu x)).toInt64 &&& 63)))) ∧ ur m C Hsc (mu_sl Hsc 152 ((qu x) / 64) (((Vc.2.2.2.2.1 152) ((qu x) / 64)) ||| ((1 : Int64) <<< ((nI (qu x)).toInt64 &&& 63)))) ∧ ud m (mu_sl Hsc 152 ((qu x) / 64) (((Vc.2.2.2.2.1 152) ((qu x) / 64)) ||| ((1 : Int64) <<< ((nI (qu x)).toInt64 &&& 63)))) = (upL Vc 152 ((qu x) / 64) (((Vc.2.2.2.2.1 152) ((qu x) / 64)) ||| ((1 : Int64) <<< ((nI (qu x)).toInt64 &&& 63)))) := uc.sL (C := C) dc rfl
    generalize (mu_sl Hsc 152 ((qu x) / 64) (((Vc.2.2.2.2.1 152) ((qu x) / 64)) ||| ((1 : Int64) <<< ((nI (qu x)).toInt64 &&& 63)))) = Q4 at u4 r4 d4 ⊢
    have qf4 : uq F327t U (upL Vc 152 ((qu x) / 64) (((Vc.2.2.2.2.1 152) ((qu x) / 64)) ||| ((1 : Int64) <<< ((nI (qu x)).toInt64 &&& 63)))) := qfc.L rfl
    have ht4 : ur m C H Q4 := htc.trans r4
    refine mw_go mu_g327 (k := 1) (f1 := (223, [(1, .inl ((nI x) + 1)), (0, .inr (.inr (some 147)))], [], Q4)) (C := []) rfl trivial ?_
    rw [(show ((nI x) + 1) = (nI (x + 1)) from (nI_add x 1))]
    refine mw_go mu_g327 (k := 1) (f1 := (187, [(1, .inl (nI (x + 1))), (0, .inr (.inr (some 147)))], [], Q4)) (C := []) rfl trivial ?_
    exact mw_sub (by simp) (ihc (x + 1, Q4) ⟨u4, ht4, (show uq F327c (upM (upI U 147 16 (0 : Int32)) 152 0 (fun _ => (0 : Int64)) (wn - 0)) (ud m Q4) from by rw [d4]; exact (zzc.L rfl)), (show (x + 1) ≤ tl from (by omega)), (show ARQ (ud m Q4) qu wn (x + 1) from by rw [d4]; exact (arq_step hAR (by omega)))⟩ (by show tl - (x + 1) < tl - x; omega))
  · -- 226: not (nI x) < (nI tl)
    have nh3 : ¬ x < tl := fun z => h3 (show nI x < nI tl from (nI_ltI (by omega) (by omega)).mpr z)
    refine mw_go mu_g327 (k := 3) (f1 := (231, [(1, .inl (nI x)), (0, .inr (.inr (some 147)))], [.inl (mu_i Hsc 147 20), .inr (.inr (some 147))], Hsc)) (C := [mu_is Hsc (some 147) 2]) rfl (show mu_is Hsc (some 147) 2 from (uc.1.1.is rfl)) ?_
    rw [(show mu_i Hsc 147 20 = (nI (p + 1)) from (ud_i (U := Vc) (m := m) (P := 147) (j := 20) dc rfl).trans ((zzc.i 147 20 rfl).trans hps))]
    refine mw_go mu_g327 (k := 2) (f1 := (233, [(1, .inl (nI x)), (0, .inr (.inr (some 147)))], [.inl ((nI (p + 1)) - (1 : Int32)), .inr (.inr (some 147))], Hsc)) (C := []) rfl trivial ?_
    rw [(show ((nI (p + 1)) - (1 : Int32)) = (nI p) from ((nI_sub (a := p + 1) (b := 1) (by omega)).trans (congrArg nI (by omega))))]
    refine mw_go mu_g327 (k := 1) (f1 := (234, [(1, .inl (nI x)), (0, .inr (.inr (some 147)))], [.inl (5 : Int32), .inl (nI p), .inr (.inr (some 147))], Hsc)) (C := []) rfl trivial ?_
    refine mw_cIe (fun _ => rfl) (show mu_is Hsc (some 147) 2 from (uc.1.1.is rfl)) (gr_node (d := (d + 3)) (r := p) (c := 5) uc dc (by (rw [(show (Vc.2.2.1 147 10).1 = (U.2.2.1 147 10).1 from (zzc.n 147 10 rfl))]; omega)) (by (rw [(show (Vc.2.2.1 147 10).1 = (U.2.2.1 147 10).1 from (zzc.n 147 10 rfl))]; omega))) ?_
    rw [show (Vc.2.2.1 147 10).2 (p * 7 + 5) = nI r from (by rw [(show (Vc.2.2.1 147 10) = (U.2.2.1 147 10) from (zzc.a 147 10 rfl))]; exact hpa)]
    refine mw_go mu_g327 (k := 4) (f1 := (243, [(1, .inl (nI r)), (0, .inr (.inr (some 147)))], [.inl (mu_i Hsc 147 18), .inr (.inr (some 147))], Hsc)) (C := [mu_is Hsc (some 147) 2]) rfl (show mu_is Hsc (some 147) 2 from (uc.1.1.is rfl)) ?_
    rw [(show mu_i Hsc 147 18 = (nI tl) from (ud_i (U := Vc) (m := m) (P := 147) (j := 18) dc rfl).trans ((zzc.i 147 18 rfl).trans htail))]
    have hxe : x = tl := by omega
    rw [hxe] at hAR
    refine mw_cI (fun _ => rfl) (show mu_is Hsc (some 147) 2 from (uc.1.1.is rfl)) (gr_isFair (d := d) (mn := tl) (qu := qu) (T := T) uc dc (hF.eq (show (Vc.2.1 99 19) = (U.2.1 99 19) from (zzc.i 99 19 rfl)) (show (Vc.2.2.1 113 3) = (U.2.2.1 113 3) from (zzc.a 113 3 rfl)) (fun c => congrFun (congrFun (show Vc.2.2.2.2.2 = U.2.2.2.2.2 from (zzc.2.2.2.2.2 rfl)) 114) c)) hTb (by rw [(show (Vc.2.2.1 147 12).1 = (U.2.2.1 147 12).1 from (zzc.n 147 12 rfl))]; omega) (by rw [(show (Vc.2.2.1 147 12).1 = (U.2.2.1 147 12).1 from (zzc.n 147 12 rfl))]; omega) (by rw [(show (Vc.2.2.1 147 12) = (U.2.2.1 147 12) from (zzc.a 147 12 rfl))]; exact hqu) (fun t ht => hAR t (by omega))) (fun x6 H6 q6 => ?_)
    obtain ⟨he6, hfr⟩ := q6
    rw [he6]
    rcases hfr with ⟨rfl, hfr⟩ | ⟨rfl, hfr⟩
    all_goals replace hfr := HID.mk hfr
    · -- fair (1 : Int32)
      refine mw_if (P := (1 : Int32) = 0) (a := 263) (b := 249) (fun _ => rfl) trivial (fun h7 => absurd h7 (by decide)) (fun h7 => ?_)
      refine mw_go mu_g327 (k := 6) (f1 := (255, [(1, .inl (nI r)), (0, .inr (.inr (some 147)))], [.inl (4 : Int32), .inl (nI r), .inr (.inr (some 147)), .inl (4 : Int32), .inl (nI r), .inr (.inr (some 147))], Hsc)) (C := []) rfl trivial ?_
      refine mw_cIe (fun _ => rfl) (show mu_is Hsc (some 147) 2 from (uc.1.1.is rfl)) (gr_node (d := (d + 3)) (r := r) (c := 4) uc dc (by (rw [(show (Vc.2.2.1 147 10).1 = (U.2.2.1 147 10).1 from (zzc.n 147 10 rfl))]; omega)) (by (rw [(show (Vc.2.2.1 147 10).1 = (U.2.2.1 147 10).1 from (zzc.n 147 10 rfl))]; omega))) ?_
      rw [show (Vc.2.2.1 147 10).2 (r * 7 + 4) = nI lv from (by rw [(show (Vc.2.2.1 147 10) = (U.2.2.1 147 10) from (zzc.a 147 10 rfl))]; exact hlv)]
      refine mw_go mu_g327 (k := 2) (f1 := (260, [(1, .inl (nI r)), (0, .inr (.inr (some 147)))], [.inl ((nI lv) ||| (1 : Int32)), .inl (4 : Int32), .inl (nI r), .inr (.inr (some 147))], Hsc)) (C := []) rfl trivial ?_
      rw [show ((nI lv) ||| (1 : Int32)) = nI (lv + 1) from (or41 lv hlv4).trans (congrArg nI (if_pos hlv0))]
      refine mw_cV (fun _ => rfl) (show mu_is Hsc (some 147) 2 from (uc.1.1.is rfl)) (gr_set (d := (d + 3)) (C := C) (r := r) (c := 4) (v := (nI (lv + 1))) uc dc (by (rw [(show (Vc.2.2.1 147 10).1 = (U.2.2.1 147 10).1 from (zzc.n 147 10 rfl))]; omega)) (by (rw [(show (Vc.2.2.1 147 10).1 = (U.2.2.1 147 10).1 from (zzc.n 147 10 rfl))]; omega))) (fun Q9 q9 => ?_)
      obtain ⟨u9, r9, d9⟩ := q9
      have ht9 : ur m C H Q9 := htc.trans r9
      have qf9 : uq F327t U (upA Vc 147 10 (r * 7 + 4) (nI (lv + 1))) := qfc.A rfl
      refine mw_go mu_g327 (k := 2) (f1 := (265, [(1, .inl (nI r)), (0, .inr (.inr (some 147)))], [.inl (nI r), .inr (.inr (some 147))], Q9)) (C := []) rfl trivial ?_
      have hcs : ∀ j, ((upA Vc 147 10 (r * 7 + 4) (nI (lv + 1))).2.2.1 147 10).2 j = if j = r * 7 + 4 then nI (lv + 1) else (U.2.2.1 147 10).2 j := fun j => by
        show (if j = r * 7 + 4 then nI (lv + 1) else (Vc.2.2.1 147 10).2 j) = _
        rw [zzc.a 147 10 rfl]
        rfl
      have hqv : uq F327t U (upA Vc 147 10 (r * 7 + 4) (nI (lv + 1))) := (show uq F327t U (upA Vc 147 10 (r * 7 + 4) (nI (lv + 1))) from (((((uq.refl F327t U).I rfl).M rfl).tr zzc rfl).A rfl))
      have hpe : (upA Vc 147 10 (r * 7 + 4) (nI (lv + 1))).2.2.2.2.2 = U.2.2.2.2.2 := (zzc.2.2.2.2.2 rfl)
      have he48 : ∀ p, p = 148 ∨ p = 162 → (upA Vc 147 10 (r * 7 + 4) (nI (lv + 1))).2.2.2.2.1 p = U.2.2.2.2.1 p := fun p hp => by rcases hp with rfl | rfl; (exact (zzc.l 148 rfl)); (exact (zzc.l 162 rfl))
      have hNKs : NK U (upA Vc 147 10 (r * 7 + 4) (nI (lv + 1))) := fun j hj => by rw [hcs, if_neg (by omega)]
      have hgls : LSN (upA Vc 147 10 (r * 7 + 4) (nI (lv + 1))) ga gi gq 256 := hgl.keep (fun b c hb => by rcases hb with rfl | rfl; (exact hqv.r 161 c rfl); (exact hqv.r 163 c rfl)) (by rw [hpe])
      have hlfs : lgf (upA Vc 147 10 (r * 7 + 4) (nI (lv + 1))) ga gi = lgf U ga gi := lsf_of_eq he48 hpe hgl
      refine mw_cV (fun _ => rfl) (show mu_is Q9 (some 147) 2 from (u9.1.1.is rfl)) (gr_settle (d := (d + 1)) (C := C) (T := T) (R := R) (ls := ls) (r := r) (k := k) (lv := (lv + 1)) (pl := pl) (ga := ga) (gi := gi) u9 d9 (hG.keep hqv rfl hNKs) hgls ((show ((upA Vc 147 10 (r * 7 + 4) (nI (lv + 1))).2.2.2.1 147 8) = (U.2.2.2.1 147 8) from (zzc.r 147 8 rfl)).trans hgo) ((show ((upA Vc 147 10 (r * 7 + 4) (nI (lv + 1))).2.1 147 21) = (U.2.1 147 21) from (zzc.i 147 21 rfl)).trans hls) hlsb (fun i hi => ⟨(by rw [hcs, if_neg (by omega)]; exact (hpl i hi).1), (hpl i hi).2⟩) hr hk1 hk2 hk3 (by rw [hcs, if_pos rfl]) (by omega)) (fun Q10 q10 => ?_)
      obtain ⟨u10, r10, z10, hs21, hsg, hsl, hs51, hsv, hsv2⟩ := q10
      rw [show (upA Vc 147 10 (r * 7 + 4) (nI (lv + 1))).2.2.2.2.1 153 = U.2.2.2.2.1 153 from (zzc.l 153 rfl), show (upA Vc 147 10 (r * 7 + 4) (nI (lv + 1))).2.2.2.2.1 151 = U.2.2.2.2.1 151 from (zzc.l 151 rfl)] at hs51
      rw [show (upA Vc 147 10 (r * 7 + 4) (nI (lv + 1))).2.2.2.2.1 153 = U.2.2.2.2.1 153 from (zzc.l 153 rfl), hlfs] at hsv
      rw [hlfs] at hsv2
      have hsg2 : GKP ga gi U (ud m Q10) := (GKP.of_eq he48 hpe).trans hsg
      have ht10 : ur m C H Q10 := ht9.trans r10
      obtain ⟨V10, d10⟩ : ∃ V, ud m Q10 = V := ⟨_, rfl⟩
      rw [d10] at z10 hs21 hsg2 hsl hs51 hsv hsv2
      have qf10 : uq F327t U V10 := hqv.tr z10 rfl
      have hcs2 : ∀ j, (V10.2.2.1 147 10).2 j = if j = r * 7 + 4 then nI (lv + 1) else (U.2.2.1 147 10).2 j := fun j => by rw [z10.a 147 10 rfl]; exact hcs j
      refine mw_go mu_g327 (k := 2) (f1 := (270, [(1, .inl (nI r)), (0, .inr (.inr (some 147)))], [.inl (nI r), .inr (.inr (some 147))], Q10)) (C := []) rfl trivial ?_
      have hNKl : NK U V10 := fun j hj => by rw [hcs2, if_neg (by omega)]
      refine mw_cV (fun _ => rfl) (show mu_is Q10 (some 147) 2 from (u10.1.1.is rfl)) (gr_leave (d := (d + 2)) (C := C) (T := T) (R := R) (pz := p) (r := r) (ab := ab) (la := la) (da := dab) (lr := lr) (dr := (lv + 1)) u10 d10 (hG.keep qf10 rfl hNKl) ((show (V10.2.1 147 20) = (U.2.1 147 20) from ((z10.i 147 20 rfl).trans (zzc.i 147 20 rfl))).trans hps) (by omega) hr (fun hp0 => (by obtain ⟨y1, y2, y3, y4, y5⟩ := hab hp0; exact ⟨(by rw [hcs2, if_neg (by omega)]; exact y1), y2, (by rw [hcs2, if_neg (by omega)]; exact y3), (by rw [hcs2, if_neg (by omega)]; exact y4)⟩)) hlab hda4 (by rw [hcs2, if_neg (by omega)]; exact hlr) hlrb (by rw [hcs2, if_pos rfl]) (by omega)) (fun Q11 q11 => ?_)
      obtain ⟨u11, r11, z11, hl20, hlc⟩ := q11
      have ht11 : ur m C H Q11 := ht10.trans r11
      obtain ⟨V11, d11⟩ : ∃ V, ud m Q11 = V := ⟨_, rfl⟩
      rw [d11] at z11 hl20 hlc
      have hclv : CLV V11 U p r (lv + 1) ab la dab lr := by
        rcases hlc with ⟨y1, y2⟩ | ⟨y1, y2⟩
        · exact Or.inl ⟨y1, fun j => by rw [y2]; exact hcs2 j⟩
        · exact Or.inr ⟨y1, fun j => by rw [y2 j, hcs2 j]⟩
      replace hlc := HID.mk hlc
      have qf11 : uq F327t U V11 := qf10.tr z11 rfl
      refine mw_go mu_g327 (k := 3) (f1 := (278, [(1, .inl (nI r)), (0, .inr (.inr (some 147)))], [], (mu_si Q11 147 14 (5 : Int32)))) (C := [mu_is Q11 (some 147) 2]) rfl (show mu_is Q11 (some 147) 2 from (u11.1.1.is rfl)) ?_
      obtain ⟨u12, r12, d12⟩ : um m (mu_si Q11 147 14 (5 : Int32)) ∧ ur m C Q11 (mu_si Q11 147 14 (5 : Int32)) ∧ ud m (mu_si Q11 147 14 (5 : Int32)) = (upI V11 147 14 (5 : Int32)) := u11.sI (C := C) d11 rfl
      generalize (mu_si Q11 147 14 (5 : Int32)) = Q12 at u12 r12 d12 ⊢
      have qf12 : uq F327t U (upI V11 147 14 (5 : Int32)) := qf11.I rfl
      have ht12 : ur m C H Q12 := ht11.trans r12
      have hgke : GKP ga gi V10 (upI V11 147 14 (5 : Int32)) := GKP.of_eq (fun p hp => by rcases hp with rfl | rfl; (exact z11.l 148 rfl); (exact z11.l 162 rfl)) (show (upI V11 147 14 (5 : Int32)).2.2.2.2.2 = V10.2.2.2.2.2 from z11.2.2.2.2.2 rfl)
      have hlse : lgf (upI V11 147 14 (5 : Int32)) ga gi = lgf V10 ga gi := lsf_of_eq (fun p hp => by rcases hp with rfl | rfl; (exact z11.l 148 rfl); (exact z11.l 162 rfl)) (show (upI V11 147 14 (5 : Int32)).2.2.2.2.2 = V10.2.2.2.2.2 from z11.2.2.2.2.2 rfl) hsl
      have hlsn : LSN (upI V11 147 14 (5 : Int32)) ga gi gq 256 := hsl.keep (fun b c hb => by rcases hb with rfl | rfl; (exact z11.r 161 c rfl); (exact z11.r 163 c rfl)) (by rw [show (upI V11 147 14 (5 : Int32)).2.2.2.2.2 = V10.2.2.2.2.2 from z11.2.2.2.2.2 rfl])
      refine mw_of (fun _ => mu_ret rfl trivial (hΦ Q12 ⟨u12, ht12, (by rw [d12]; exact qf12), ?_⟩))
      rw [d12]
      refine ⟨rfl, hl20, ((z11.i 147 21 rfl).trans hs21), ((z11.i 147 16 rfl).trans ((z10.i 147 16 rfl).trans (zzc.i 147 16 rfl))), (lv + 1), Or.inl ⟨rfl, hfr.out⟩, hclv, hsg2.trans hgke, hlsn, ?_, ?_, ?_⟩
      · rw [show (upI V11 147 14 (5 : Int32)).2.2.2.2.1 151 = V10.2.2.2.2.1 151 from z11.l 151 rfl]; exact hs51
      · rw [hlse]; exact hsv
      · rw [hlse]; exact hsv2
    · -- fair (0 : Int32)
      refine mw_if (P := (0 : Int32) = 0) (a := 263) (b := 249) (fun _ => rfl) trivial (fun h13 => ?_) (fun h13 => absurd (by decide) h13)
      refine mw_go mu_g327 (k := 2) (f1 := (265, [(1, .inl (nI r)), (0, .inr (.inr (some 147)))], [.inl (nI r), .inr (.inr (some 147))], Hsc)) (C := []) rfl trivial ?_
      have hcs : ∀ j, (Vc.2.2.1 147 10).2 j = if j = r * 7 + 4 then nI lv else (U.2.2.1 147 10).2 j := fun j => by
        rw [(show (Vc.2.2.1 147 10) = (U.2.2.1 147 10) from (zzc.a 147 10 rfl))]
        by_cases y : j = r * 7 + 4
        · rw [if_pos y, y]; exact hlv
        · rw [if_neg y]
      have hqv : uq F327t U Vc := (show uq F327t U Vc from ((((uq.refl F327t U).I rfl).M rfl).tr zzc rfl))
      have hpe : Vc.2.2.2.2.2 = U.2.2.2.2.2 := (zzc.2.2.2.2.2 rfl)
      have he48 : ∀ p, p = 148 ∨ p = 162 → Vc.2.2.2.2.1 p = U.2.2.2.2.1 p := fun p hp => by rcases hp with rfl | rfl; (exact (zzc.l 148 rfl)); (exact (zzc.l 162 rfl))
      have hNKs : NK U Vc := fun j hj => by rw [hcs, if_neg (by omega)]
      have hgls : LSN Vc ga gi gq 256 := hgl.keep (fun b c hb => by rcases hb with rfl | rfl; (exact hqv.r 161 c rfl); (exact hqv.r 163 c rfl)) (by rw [hpe])
      have hlfs : lgf Vc ga gi = lgf U ga gi := lsf_of_eq he48 hpe hgl
      refine mw_cV (fun _ => rfl) (show mu_is Hsc (some 147) 2 from (uc.1.1.is rfl)) (gr_settle (d := (d + 1)) (C := C) (T := T) (R := R) (ls := ls) (r := r) (k := k) (lv := lv) (pl := pl) (ga := ga) (gi := gi) uc dc (hG.keep hqv rfl hNKs) hgls ((show (Vc.2.2.2.1 147 8) = (U.2.2.2.1 147 8) from (zzc.r 147 8 rfl)).trans hgo) ((show (Vc.2.1 147 21) = (U.2.1 147 21) from (zzc.i 147 21 rfl)).trans hls) hlsb (fun i hi => ⟨(by rw [hcs, if_neg (by omega)]; exact (hpl i hi).1), (hpl i hi).2⟩) hr hk1 hk2 hk3 (by rw [hcs, if_pos rfl]) (by omega)) (fun Q14 q14 => ?_)
      obtain ⟨u14, r14, z14, hs21, hsg, hsl, hs51, hsv, hsv2⟩ := q14
      rw [show Vc.2.2.2.2.1 153 = U.2.2.2.2.1 153 from (zzc.l 153 rfl), show Vc.2.2.2.2.1 151 = U.2.2.2.2.1 151 from (zzc.l 151 rfl)] at hs51
      rw [show Vc.2.2.2.2.1 153 = U.2.2.2.2.1 153 from (zzc.l 153 rfl), hlfs] at hsv
      rw [hlfs] at hsv2
      have hsg2 : GKP ga gi U (ud m Q14) := (GKP.of_eq he48 hpe).trans hsg
      have ht14 : ur m C H Q14 := htc.trans r14
      obtain ⟨V14, d14⟩ : ∃ V, ud m Q14 = V := ⟨_, rfl⟩
      rw [d14] at z14 hs21 hsg2 hsl hs51 hsv hsv2
      have qf14 : uq F327t U V14 := hqv.tr z14 rfl
      have hcs2 : ∀ j, (V14.2.2.1 147 10).2 j = if j = r * 7 + 4 then nI lv else (U.2.2.1 147 10).2 j := fun j => by rw [z14.a 147 10 rfl]; exact hcs j
      refine mw_go mu_g327 (k := 2) (f1 := (270, [(1, .inl (nI r)), (0, .inr (.inr (some 147)))], [.inl (nI r), .inr (.inr (some 147))], Q14)) (C := []) rfl trivial ?_
      have hNKl : NK U V14 := fun j hj => by rw [hcs2, if_neg (by omega)]
      refine mw_cV (fun _ => rfl) (show mu_is Q14 (some 147) 2 from (u14.1.1.is rfl)) (gr_leave (d := (d + 2)) (C := C) (T := T) (R := R) (pz := p) (r := r) (ab := ab) (la := la) (da := dab) (lr := lr) (dr := lv) u14 d14 (hG.keep qf14 rfl hNKl) ((show (V14.2.1 147 20) = (U.2.1 147 20) from ((z14.i 147 20 rfl).trans (zzc.i 147 20 rfl))).trans hps) (by omega) hr (fun hp0 => (by obtain ⟨y1, y2, y3, y4, y5⟩ := hab hp0; exact ⟨(by rw [hcs2, if_neg (by omega)]; exact y1), y2, (by rw [hcs2, if_neg (by omega)]; exact y3), (by rw [hcs2, if_neg (by omega)]; exact y4)⟩)) hlab hda4 (by rw [hcs2, if_neg (by omega)]; exact hlr) hlrb (by rw [hcs2, if_pos rfl]) (by omega)) (fun Q15 q15 => ?_)
      obtain ⟨u15, r15, z15, hl20, hlc⟩ := q15
      have ht15 : ur m C H Q15 := ht14.trans r15
      obtain ⟨V15, d15⟩ : ∃ V, ud m Q15 = V := ⟨_, rfl⟩
      rw [d15] at z15 hl20 hlc
      have hclv : CLV V15 U p r lv ab la dab lr := by
        rcases hlc with ⟨y1, y2⟩ | ⟨y1, y2⟩
        · exact Or.inl ⟨y1, fun j => by rw [y2]; exact hcs2 j⟩
        · exact Or.inr ⟨y1, fun j => by rw [y2 j, hcs2 j]⟩
      replace hlc := HID.mk hlc
      have qf15 : uq F327t U V15 := qf14.tr z15 rfl
      refine mw_go mu_g327 (k := 3) (f1 := (278, [(1, .inl (nI r)), (0, .inr (.inr (some 147)))], [], (mu_si Q15 147 14 (5 : Int32)))) (C := [mu_is Q15 (some 147) 2]) rfl (show mu_is Q15 (some 147) 2 from (u15.1.1.is rfl)) ?_
      obtain ⟨u16, r16, d16⟩ : um m (mu_si Q15 147 14 (5 : Int32)) ∧ ur m C Q15 (mu_si Q15 147 14 (5 : Int32)) ∧ ud m (mu_si Q15 147 14 (5 : Int32)) = (upI V15 147 14 (5 : Int32)) := u15.sI (C := C) d15 rfl
      generalize (mu_si Q15 147 14 (5 : Int32)) = Q16 at u16 r16 d16 ⊢
      have qf16 : uq F327t U (upI V15 147 14 (5 : Int32)) := qf15.I rfl
      have ht16 : ur m C H Q16 := ht15.trans r16
      have hgke : GKP ga gi V14 (upI V15 147 14 (5 : Int32)) := GKP.of_eq (fun p hp => by rcases hp with rfl | rfl; (exact z15.l 148 rfl); (exact z15.l 162 rfl)) (show (upI V15 147 14 (5 : Int32)).2.2.2.2.2 = V14.2.2.2.2.2 from z15.2.2.2.2.2 rfl)
      have hlse : lgf (upI V15 147 14 (5 : Int32)) ga gi = lgf V14 ga gi := lsf_of_eq (fun p hp => by rcases hp with rfl | rfl; (exact z15.l 148 rfl); (exact z15.l 162 rfl)) (show (upI V15 147 14 (5 : Int32)).2.2.2.2.2 = V14.2.2.2.2.2 from z15.2.2.2.2.2 rfl) hsl
      have hlsn : LSN (upI V15 147 14 (5 : Int32)) ga gi gq 256 := hsl.keep (fun b c hb => by rcases hb with rfl | rfl; (exact z15.r 161 c rfl); (exact z15.r 163 c rfl)) (by rw [show (upI V15 147 14 (5 : Int32)).2.2.2.2.2 = V14.2.2.2.2.2 from z15.2.2.2.2.2 rfl])
      refine mw_of (fun _ => mu_ret rfl trivial (hΦ Q16 ⟨u16, ht16, (by rw [d16]; exact qf16), ?_⟩))
      rw [d16]
      refine ⟨rfl, hl20, ((z15.i 147 21 rfl).trans hs21), ((z15.i 147 16 rfl).trans ((z14.i 147 16 rfl).trans (zzc.i 147 16 rfl))), lv, Or.inr ⟨rfl, hfr.out⟩, hclv, hsg2.trans hgke, hlsn, ?_, ?_, ?_⟩
      · rw [show (upI V15 147 14 (5 : Int32)).2.2.2.2.1 151 = V14.2.2.2.2.1 151 from z15.l 151 rfl]; exact hs51
      · rw [hlse]; exact hsv
      · rw [hlse]; exact hsv2
def F327l : Uf := ⟨[], [(147, 18)], [(147, 12)], [], [152], false⟩
def F327h : Uf := ⟨[], [(147, 15), (147, 16), (147, 17), (147, 18)], [(147, 12)], [], [152], false⟩
theorem emp52 {L : Nat → Int64} (hw : wn = (T + 63) / 64) (ht : t < T) (h : ∀ i, i < wn → L i = 0) : ¬ bts L t = true := fun z => by
  unfold bts at z
  rw [h _ (by omega), btz_0] at z
  cases z
def F327a : Uf := ⟨[], [(147, 18)], [(147, 12)], [], [152], false⟩
def F327b : Uf := ⟨[], [(147, 18)], [(147, 12)], [], [], false⟩
theorem gr_circle (h : um m H) (e : ud m H = U) (hG : GRB U T R wn rx mb me) (hgl : LSN U ga gi gq 256) (hgo : U.2.2.2.1 147 8 = some gq) (hls : U.2.1 147 21 = nI ls) (hlsb : ls ≤ T + 1) (hpl : ∀ i, i < ls → (U.2.2.1 147 10).2 (i * 7 + 6) = nI (pl i) ∧ pl i < R) (hr : r < R) (hk1 : k < ls) (hk2 : pl k = r) (hk3 : ∀ i, k < i → i < ls → ¬ pl i = r) (hlv : (U.2.2.1 147 10).2 (r * 7 + 4) = nI lv) (hlv4 : lv < 4) (hlv0 : lv % 2 = 0) (hps : U.2.1 147 20 = nI (p + 1)) (hpb : p ≤ T) (hpa : (U.2.2.1 147 10).2 (p * 7 + 5) = nI r) (hab : 0 < p → (U.2.2.1 147 10).2 ((p - 1) * 7 + 5) = nI ab ∧ ab < R ∧ (U.2.2.1 147 10).2 (ab * 7 + 2) = nI la ∧ (U.2.2.1 147 10).2 (ab * 7 + 4) = nI dab ∧ ¬ ab = r) (hlab : la < 2147483648) (hda4 : dab < 4) (hlr : (U.2.2.1 147 10).2 (r * 7 + 2) = nI lr) (hlrb : lr < 2147483648) (hF : FST U nf T FS) (htail : U.2.1 147 18 = nI tl) (htlT : tl ≤ T) (hqu : ∀ i, i < tl → (U.2.2.1 147 12).2 i = nI (qu i) ∧ qu i < T) (hz : BZ U bf bt) (hT146 : ∀ s, s < 16384 → bts (U.2.2.2.2.1 146) s = true → s < T) (hhd : U.2.1 147 17 = nI hd) (hhl : hd < ls) (hcur : U.2.1 147 16 = nI c) (hc : c ≤ wn) (hzc : ∀ i, i < c → U.2.2.2.2.1 152 i = 0) (hinj : ∀ i j, i < tl → j < tl → qu i = qu j → i = j) (hnot : ∀ i, i < tl → ¬ bts (U.2.2.2.2.1 152) (qu i) = true) (hT152 : ∀ s, s < 64 * wn → bts (U.2.2.2.2.1 152) s = true → s < T) : mu_TV (mu_D (d + 5)) 327 [.inr (.inr (some 147))] H (fun H1 => um m H1 ∧ ur m C H H1 ∧ uq F327 U (ud m H1) ∧ ((hd + 1 < ls ∧ (ud m H1).2.1 147 17 = nI (hd + 1) ∧ (ud m H1).2.1 147 15 = nI (pl (hd + 1)) ∧ (∃ c, (ud m H1).2.1 147 16 = nI c ∧ c ≤ wn ∧ ∀ i, i < c → (ud m H1).2.2.2.2.1 152 i = 0) ∧ (ud m H1).2.2.1 147 10 = U.2.2.1 147 10 ∧ uq F327h U (ud m H1) ∧ ∃ (t1 : Nat) (q1 : Nat → Nat), (ud m H1).2.1 147 18 = nI t1 ∧ (∀ i, i < t1 → ((ud m H1).2.2.1 147 12).2 i = nI (q1 i) ∧ q1 i < T) ∧ t1 ≤ T ∧ (∀ i j, i < t1 → j < t1 → q1 i = q1 j → i = j) ∧ (∀ t, (∃ i, i < t1 ∧ q1 i = t) ↔ (∃ i, i < tl ∧ qu i = t) ∨ (t < T ∧ bts (U.2.2.2.2.1 146) t = true ∧ bts (U.2.2.2.2.1 152) t = true)) ∧ (∀ t, t < T → (bts ((ud m H1).2.2.2.2.1 152) t = true ↔ bts (U.2.2.2.2.1 152) t = true ∧ ¬ bts (U.2.2.2.2.1 146) t = true)) ∧ ∀ s, s < 64 * wn → bts ((ud m H1).2.2.2.2.1 152) s = true → s < T) ∨ ((ud m H1).2.1 147 14 = 5 ∧ (ud m H1).2.1 147 20 = nI p ∧ (ud m H1).2.1 147 21 = nI k ∧ (ud m H1).2.1 147 16 = 0 ∧ ∃ (t1 : Nat) (q1 : Nat → Nat), (∀ t, (∃ i, i < t1 ∧ q1 i = t) ↔ (∃ i, i < tl ∧ qu i = t) ∨ (t < T ∧ bts (U.2.2.2.2.1 146) t = true ∧ bts (U.2.2.2.2.1 152) t = true)) ∧ (hd + 1 = ls ∨ ∀ t, t < T → ¬ (bts (U.2.2.2.2.1 152) t = true ∧ ¬ bts (U.2.2.2.2.1 146) t = true)) ∧ ∃ lvx, ((lvx = lv + 1 ∧ ∀ f, f < nf → ∃ i, i < t1 ∧ FS f (q1 i) = true) ∨ (lvx = lv ∧ ∃ f, f < nf ∧ ∀ i, i < t1 → FS f (q1 i) = false)) ∧ CLV (ud m H1) U p r lvx ab la dab lr ∧ GKP ga gi U (ud m H1) ∧ LSN (ud m H1) ga gi gq 256 ∧ ((∀ t, t < T → (bts ((ud m H1).2.2.2.2.1 151) t = true ↔ bts (U.2.2.2.2.1 151) t = true ∧ ¬ (bts (U.2.2.2.2.1 153) t = true ∧ SCC pl k ls (rx t)))) ∧ ∀ t, bts ((ud m H1).2.2.2.2.1 151) t = true → bts (U.2.2.2.2.1 151) t = true) ∧ (∀ t, t < T → (bts (lgf (ud m H1) ga gi) t = true ↔ bts (lgf U ga gi) t = true ∨ (lvx % 2 = 1 ∧ bts (U.2.2.2.2.1 153) t = true ∧ SCC pl k ls (rx t)))) ∧ ∀ t, bts (lgf (ud m H1) ga gi) t = true → bts (lgf U ga gi) t = true ∨ t < T))) := by
  obtain ⟨⟨⟨hg12, hg11⟩, hgwn, hTb⟩, ⟨⟨g6a, g6b⟩, hrx⟩, ⟨hRT, g10a, g10b⟩, ⟨g11a, g11b⟩, ⟨g12a, g12b⟩, ⟨g13a, g13b⟩, hmb, hme, hmp1, hmp2, hmp3, hmp4⟩ := id hG
  have hwnb : wn ≤ 256 := by omega
  obtain ⟨⟨hz19, hz20, hzft, hz256⟩, hz0⟩ := id hz
  refine mu_meth (M := mu_m327) rfl rfl ?_
  refine mw_ht (mu_fn_of (show [0].Nodup by decide)) ?_
  refine mw_go mu_g327 (k := 2) (f1 := (4, [(0, .inr (.inr (some 147)))], [.inr (.inr (mu_r H 147 1))], H)) (C := [mu_is H (some 147) 2]) rfl (show mu_is H (some 147) 2 from (h.1.1.is rfl)) ?_
  rw [(h.1.1.r (p := 147) (j := 1) (q := 129) rfl)]
  refine mw_go mu_g327 (k := 1) (f1 := (7, [(0, .inr (.inr (some 147)))], [.inl (mu_i H 129 19)], H)) (C := [mu_is H (some 129) 9]) rfl (show mu_is H (some 129) 9 from (h.1.1.is rfl)) ?_
  rw [(show mu_i H 129 19 = (nI bf) from (ud_i (U := U) (m := m) (P := 129) (j := 19) e rfl).trans hz19)]
  refine mw_go mu_g327 (k := 1) (f1 := (8, [(1, .inl (nI bf)), (0, .inr (.inr (some 147)))], [], H)) (C := []) rfl trivial ?_
  refine mw_sub (L' := [(1, .inl (nI bf)), (0, .inr (.inr (some 147)))]) (by simp) ?_
  refine mw_down (α := Nat × mu_H) (fun zs => (8, [(1, .inl (nI zs.1)), (0, .inr (.inr (some 147)))], [], zs.2)) (fun zs => bt - zs.1) (fun zs => um m zs.2 ∧ ur m C H zs.2 ∧ (uq F327a U (ud m zs.2)) ∧ (bf ≤ zs.1 ∧ zs.1 ≤ bt) ∧ (∀ i, (ud m zs.2).2.2.2.2.1 152 i = if bf ≤ i ∧ i < zs.1 then U.2.2.2.2.1 152 i &&& ((U.2.2.2.2.1 146 i &&& U.2.2.2.2.1 152 i) ^^^ (-1 : Int64)) else U.2.2.2.2.1 152 i) ∧ (QNX (ud m zs.2) U tl T zs.1)) (fun zs hza iha => ?_) (bf, H) ⟨h, (ur.refl m C H), (show uq F327a U (ud m H) from by rw [e]; exact uq.refl _ _), (show bf ≤ bf ∧ bf ≤ bt from ⟨Nat.le_refl _, hz.1.2.2.1⟩), (show ∀ i, (ud m H).2.2.2.2.1 152 i = if bf ≤ i ∧ i < bf then U.2.2.2.2.1 152 i &&& ((U.2.2.2.2.1 146 i &&& U.2.2.2.2.1 152 i) ^^^ (-1 : Int64)) else U.2.2.2.2.1 152 i from by rw [e]; exact (fun i => by rw [if_neg (by omega)])), (show QNX (ud m H) U tl T bf from by rw [e]; exact ⟨0, fun _ => 0, ⟨htail, fun i hi => absurd hi (Nat.not_lt_zero i), fun _ _ => rfl⟩, fun i j _ hj => absurd hj (Nat.not_lt_zero j), fun s => ⟨fun ⟨i, hi, _⟩ => absurd hi (Nat.not_lt_zero i), fun y => (by have y1 := bnc_is.mp y.2; have y2 := y1.2.1; have y3 := hz.2 (s / 64) (by omega) (by omega); unfold bts at y2; rw [y3, btz_0] at y2; cases y2)⟩⟩)⟩
  obtain ⟨w, Hsa⟩ := zs
  obtain ⟨ua, hta, da, hw, hU, hL⟩ := hza
  have ua : um m Hsa := ua
  have hta : ur m C H Hsa := hta
  have zza : uq F327a U (ud m Hsa) := da
  have hw : bf ≤ w ∧ w ≤ bt := hw
  have hU : ∀ i, (ud m Hsa).2.2.2.2.1 152 i = if bf ≤ i ∧ i < w then U.2.2.2.2.1 152 i &&& ((U.2.2.2.2.1 146 i &&& U.2.2.2.2.1 152 i) ^^^ (-1 : Int64)) else U.2.2.2.2.1 152 i := hU
  have hL : QNX (ud m Hsa) U tl T w := hL
  obtain ⟨Va, da⟩ : ∃ V, ud m Hsa = V := ⟨_, rfl⟩
  rw [da] at zza hU hL
  show mu_W _ _ (8, [(1, .inl (nI w)), (0, .inr (.inr (some 147)))], [], Hsa) _
  obtain ⟨n0, ls0, hQ0, hen⟩ := id hL
  replace hL := HID.mk hL
  refine mw_go mu_g327 (k := 3) (f1 := (13, [(1, .inl (nI w)), (0, .inr (.inr (some 147)))], [.inr (.inr (mu_r Hsa 147 1)), .inl (nI w)], Hsa)) (C := [mu_is Hsa (some 147) 2]) rfl (show mu_is Hsa (some 147) 2 from (ua.1.1.is rfl)) ?_
  rw [(ua.1.1.r (p := 147) (j := 1) (q := 129) rfl)]
  refine mw_go mu_g327 (k := 1) (f1 := (16, [(1, .inl (nI w)), (0, .inr (.inr (some 147)))], [.inl (mu_i Hsa 129 20), .inl (nI w)], Hsa)) (C := [mu_is Hsa (some 129) 9]) rfl (show mu_is Hsa (some 129) 9 from (ua.1.1.is rfl)) ?_
  rw [(show mu_i Hsa 129 20 = (nI bt) from (ud_i (U := Va) (m := m) (P := 129) (j := 20) da rfl).trans ((zza.i 129 20 rfl).trans hz20))]
  refine mw_if (P := (nI w) < (nI bt)) (a := 19) (b := 117) (fun _ => rfl) trivial (fun h1 => ?_) (fun h1 => ?_)
  · -- 19: (nI w) < (nI bt)
    have nh1 : w < bt := (nI_ltI (by omega) (by omega)).mp (show nI w < nI bt from h1)
    refine mw_go mu_g327 (k := 2) (f1 := (23, [(1, .inl (nI w)), (0, .inr (.inr (some 147)))], [.inr (.inr (mu_r Hsa 147 1))], Hsa)) (C := [mu_is Hsa (some 147) 2]) rfl (show mu_is Hsa (some 147) 2 from (ua.1.1.is rfl)) ?_
    rw [(ua.1.1.r (p := 147) (j := 1) (q := 129) rfl)]
    refine mw_go mu_g327 (k := 1) (f1 := (26, [(1, .inl (nI w)), (0, .inr (.inr (some 147)))], [.inr (.inr (mu_r Hsa 129 18))], Hsa)) (C := [mu_is Hsa (some 129) 9]) rfl (show mu_is Hsa (some 129) 9 from (ua.1.1.is rfl)) ?_
    rw [(ua.1.1.r (p := 129) (j := 18) (q := 146) rfl)]
    refine mw_go mu_g327 (k := 2) (f1 := (28, [(1, .inl (nI w)), (0, .inr (.inr (some 147)))], [.inr (.inl (mu_l Hsa 146 (nI w).toNatClampNeg))], Hsa)) (C := [mu_isr Hsa (some 146) 102, vp_in (nI w) (mu_n Hsa 146)]) rfl (show (mu_isr Hsa (some 146) 102) ∧ (vp_in (nI w) (mu_n Hsa 146)) from ⟨((ua.1.1.a (p := 146) (x := (102, 256)) rfl).1).r, (by rw [show mu_n Hsa 146 = 256 from (ua.1.1.a (p := 146) (x := (102, 256)) rfl).2]; exact vp_in_nI (n := w) (by omega) (by decide))⟩) ?_
    rw [(show (mu_l Hsa 146 (nI w).toNatClampNeg) = (U.2.2.2.2.1 146) w from (congrArg (mu_l Hsa 146) (show (nI w).toNatClampNeg = w from nI_clamp (by omega))).trans ((ud_l (m := m) (p := 146) (i := w) da rfl).trans (congrFun (show Va.2.2.2.2.1 146 = (U.2.2.2.2.1 146) from (zza.l 146 rfl)) w)))]
    refine mw_go mu_g327 (k := 2) (f1 := (32, [(1, .inl (nI w)), (0, .inr (.inr (some 147)))], [.inr (.inr (mu_r Hsa 147 6)), .inr (.inl ((U.2.2.2.2.1 146) w))], Hsa)) (C := [mu_is Hsa (some 147) 2]) rfl (show mu_is Hsa (some 147) 2 from (ua.1.1.is rfl)) ?_
    rw [(ua.1.1.r (p := 147) (j := 6) (q := 152) rfl)]
    refine mw_go mu_g327 (k := 2) (f1 := (34, [(1, .inl (nI w)), (0, .inr (.inr (some 147)))], [.inr (.inl (mu_l Hsa 152 (nI w).toNatClampNeg)), .inr (.inl ((U.2.2.2.2.1 146) w))], Hsa)) (C := [mu_isr Hsa (some 152) 102, vp_in (nI w) (mu_n Hsa 152)]) rfl (show (mu_isr Hsa (some 152) 102) ∧ (vp_in (nI w) (mu_n Hsa 152)) from ⟨((ua.1.1.a (p := 152) (x := (102, 256)) rfl).1).r, (by rw [show mu_n Hsa 152 = 256 from (ua.1.1.a (p := 152) (x := (102, 256)) rfl).2]; exact vp_in_nI (n := w) (by omega) (by decide))⟩) ?_
    rw [(show (mu_l Hsa 152 (nI w).toNatClampNeg) = (Va.2.2.2.2.1 152) w from (congrArg (mu_l Hsa 152) (show (nI w).toNatClampNeg = w from nI_clamp (by omega))).trans ((ud_l (m := m) (p := 152) (i := w) da rfl).trans (congrFun (show Va.2.2.2.2.1 152 = (Va.2.2.2.2.1 152) from rfl) w)))]
    refine mw_go mu_g327 (k := 1) (f1 := (35, [(1, .inl (nI w)), (0, .inr (.inr (some 147)))], [.inr (.inl (((U.2.2.2.2.1 146) w) &&& ((Va.2.2.2.2.1 152) w)))], Hsa)) (C := []) rfl trivial ?_
    obtain ⟨lf0, hlf0⟩ : ∃ y, y = (((U.2.2.2.2.1 146) w) &&& ((Va.2.2.2.2.1 152) w)) := ⟨_, rfl⟩
    rw [← hlf0]
    have hu0 : Va.2.2.2.2.1 152 w = U.2.2.2.2.1 152 w := by rw [hU w, if_neg (by omega)]
    have hlq : ∀ q, q < 64 → btz lf0 q = BNC U T (64 * w + q) := fun q hq => by
      rw [hlf0, hu0]
      exact bnc_q hT146 (by omega) q hq
    refine mw_go mu_g327 (k := 3) (f1 := (40, [(2, .inr (.inl lf0)), (1, .inl (nI w)), (0, .inr (.inr (some 147)))], [.inr (.inr (mu_r Hsa 147 6))], Hsa)) (C := [mu_is Hsa (some 147) 2]) rfl (show mu_is Hsa (some 147) 2 from (ua.1.1.is rfl)) ?_
    rw [(ua.1.1.r (p := 147) (j := 6) (q := 152) rfl)]
    refine mw_go mu_g327 (k := 3) (f1 := (43, [(2, .inr (.inl lf0)), (1, .inl (nI w)), (0, .inr (.inr (some 147)))], [.inr (.inl (mu_l Hsa 152 (nI w).toNatClampNeg)), .inl (nI w), .inr (.inr (some 152))], Hsa)) (C := [mu_isr Hsa (some 152) 102, vp_in (nI w) (mu_n Hsa 152)]) rfl (show (mu_isr Hsa (some 152) 102) ∧ (vp_in (nI w) (mu_n Hsa 152)) from ⟨((ua.1.1.a (p := 152) (x := (102, 256)) rfl).1).r, (by rw [show mu_n Hsa 152 = 256 from (ua.1.1.a (p := 152) (x := (102, 256)) rfl).2]; exact vp_in_nI (n := w) (by omega) (by decide))⟩) ?_
    rw [(show (mu_l Hsa 152 (nI w).toNatClampNeg) = (Va.2.2.2.2.1 152) w from (congrArg (mu_l Hsa 152) (show (nI w).toNatClampNeg = w from nI_clamp (by omega))).trans ((ud_l (m := m) (p := 152) (i := w) da rfl).trans (congrFun (show Va.2.2.2.2.1 152 = (Va.2.2.2.2.1 152) from rfl) w)))]
    refine mw_go mu_g327 (k := 5) (f1 := (50, [(2, .inr (.inl lf0)), (1, .inl (nI w)), (0, .inr (.inr (some 147)))], [], (mu_sl Hsa 152 (nI w).toNatClampNeg (((Va.2.2.2.2.1 152) w) &&& (lf0 ^^^ (-1 : Int64)))))) (C := [mu_is Hsa (some 152) 102, vp_in (nI w) (mu_n Hsa 152)]) rfl (show (mu_is Hsa (some 152) 102) ∧ (vp_in (nI w) (mu_n Hsa 152)) from ⟨((ua.1.1.a (p := 152) (x := (102, 256)) rfl).1), (by rw [show mu_n Hsa 152 = 256 from (ua.1.1.a (p := 152) (x := (102, 256)) rfl).2]; exact vp_in_nI (n := w) (by omega) (by decide))⟩) ?_
    rw [(show (nI w).toNatClampNeg = w from nI_clamp (by omega))]
    obtain ⟨u2, r2, d2⟩ : um m (mu_sl Hsa 152 w (((Va.2.2.2.2.1 152) w) &&& (lf0 ^^^ (-1 : Int64)))) ∧ ur m C Hsa (mu_sl Hsa 152 w (((Va.2.2.2.2.1 152) w) &&& (lf0 ^^^ (-1 : Int64)))) ∧ ud m (mu_sl Hsa 152 w (((Va.2.2.2.2.1 152) w) &&& (lf0 ^^^ (-1 : Int64)))) = (upL Va 152 w (((Va.2.2.2.2.1 152) w) &&& (lf0 ^^^ (-1 : Int64)))) := ua.sL (C := C) da rfl
    generalize (mu_sl Hsa 152 w (((Va.2.2.2.2.1 152) w) &&& (lf0 ^^^ (-1 : Int64)))) = Q2 at u2 r2 d2 ⊢
    have ht2 : ur m C H Q2 := hta.trans r2
    refine mw_go mu_g327 (k := 3) (f1 := (53, [(2, .inr (.inl lf0)), (1, .inl (nI w)), (0, .inr (.inr (some 147)))], [.inl (lg_cmp lf0 (0 : Int64))], Q2)) (C := []) rfl trivial ?_
    refine mw_if (P := (lg_cmp lf0 (0 : Int64)) = 0) (a := 56) (b := 60) (fun _ => rfl) trivial (fun h3 => ?_) (fun h3 => ?_)
    · -- 56: (lg_cmp lf0 (0 : Int64)) = 0
      refine mw_go mu_g327 (k := 2) (f1 := (64, [(2, .inr (.inl lf0)), (1, .inl (nI w)), (0, .inr (.inr (some 147)))], [.inl (0 : Int32)], Q2)) (C := []) rfl trivial ?_
      have hc0 : (0 : Int32) = nI (cnz lf0 64) := by rw [show lf0 = 0 from lg_ne.mp h3, cnz_0 64 (fun i _ => btz_0)]; rfl
      refine mw_frU (congrArg (fun z => ((64, [(2, .inr (.inl lf0)), (1, .inl (nI w)), (0, .inr (.inr (some 147)))], [.inl z], Q2) : mu_F)) hc0) ?_
      refine mw_go mu_g327 (k := 1) (f1 := (66, [(4, .inl (nI (cnz lf0 64))), (2, .inr (.inl lf0)), (1, .inl (nI w)), (0, .inr (.inr (some 147)))], [], Q2)) (C := []) rfl trivial ?_
      refine mw_sub (L' := [(2, .inr (.inl lf0)), (4, .inl (nI (cnz lf0 64))), (0, .inr (.inr (some 147))), (1, .inl (nI w))]) (by simp) ?_
      refine mw_down (α := Int64 × mu_H) (fun zs => (66, [(2, .inr (.inl zs.1)), (4, .inl (nI (cnz zs.1 64))), (0, .inr (.inr (some 147))), (1, .inl (nI w))], [], zs.2)) (fun zs => cnz zs.1 64) (fun zs => um m zs.2 ∧ ur m C H zs.2 ∧ (uq F327b (upL Va 152 w (((Va.2.2.2.2.1 152) w) &&& (lf0 ^^^ (-1 : Int64)))) (ud m zs.2)) ∧ (QNI (ud m zs.2) U tl T w zs.1)) (fun zs hzb ihb => ?_) (lf0, Q2) ⟨u2, ht2, (show uq F327b (upL Va 152 w (((Va.2.2.2.2.1 152) w) &&& (lf0 ^^^ (-1 : Int64)))) (ud m Q2) from by rw [d2]; exact uq.refl _ _), (show QNI (ud m Q2) U tl T w lf0 from by rw [d2]; exact ⟨n0, ls0, hQ0, in_start hen hlq⟩)⟩
      obtain ⟨lf, Hsb⟩ := zs
      obtain ⟨ub, htb, db, hI⟩ := hzb
      have ub : um m Hsb := ub
      have htb : ur m C H Hsb := htb
      have zzb : uq F327b (upL Va 152 w (((Va.2.2.2.2.1 152) w) &&& (lf0 ^^^ (-1 : Int64)))) (ud m Hsb) := db
      have hI : QNI (ud m Hsb) U tl T w lf := hI
      obtain ⟨Vb, db⟩ : ∃ V, ud m Hsb = V := ⟨_, rfl⟩
      rw [db] at zzb hI
      show mu_W _ _ (66, [(2, .inr (.inl lf)), (4, .inl (nI (cnz lf 64))), (0, .inr (.inr (some 147))), (1, .inl (nI w))], [], Hsb) _
      obtain ⟨n, ls1, hQ, hin⟩ := id hI
      replace hI := HID.mk hI
      have hcb := cnz_b (lf := lf) 64
      obtain ⟨hQ1, hQ2, hQ3⟩ := id hQ
      refine mw_go mu_g327 (k := 1) (f1 := (68, [(2, .inr (.inl lf)), (4, .inl (nI (cnz lf 64))), (0, .inr (.inr (some 147))), (1, .inl (nI w))], [.inl (nI (cnz lf 64))], Hsb)) (C := []) rfl trivial ?_
      refine mw_if (P := 0 < (nI (cnz lf 64))) (a := 71) (b := 111) (fun _ => rfl) trivial (fun h4 => ?_) (fun h4 => ?_)
      · -- 71: 0 < (nI (cnz lf 64))
        have nh4 : 0 < (cnz lf 64) := (nI_ltI (by omega) (by omega)).mp (show nI 0 < nI (cnz lf 64) from h4)
        refine mw_go mu_g327 (k := 2) (f1 := (75, [(2, .inr (.inl lf)), (4, .inl (nI (cnz lf 64))), (0, .inr (.inr (some 147))), (1, .inl (nI w))], [.inr (.inr (mu_r Hsb 147 12))], Hsb)) (C := [mu_is Hsb (some 147) 2]) rfl (show mu_is Hsb (some 147) 2 from (ub.1.1.is rfl)) ?_
        rw [(show mu_r Hsb 147 12 = (U.2.2.2.1 147 12) from (ud_q (U := Vb) (m := m) (P := 147) (j := 12) db rfl).trans ((zzb.r 147 12 rfl).trans (zza.r 147 12 rfl)))]
        refine mw_go mu_g327 (k := 2) (f1 := (79, [(2, .inr (.inl lf)), (4, .inl (nI (cnz lf 64))), (0, .inr (.inr (some 147))), (1, .inl (nI w))], [.inl (mu_i Hsb 147 18), .inr (.inr (U.2.2.2.1 147 12))], Hsb)) (C := [mu_is Hsb (some 147) 2]) rfl (show mu_is Hsb (some 147) 2 from (ub.1.1.is rfl)) ?_
        rw [(show mu_i Hsb 147 18 = (nI (tl + n)) from (ud_i (U := Vb) (m := m) (P := 147) (j := 18) db rfl).trans hQ1)]
        refine mw_go mu_g327 (k := 3) (f1 := (83, [(2, .inr (.inl lf)), (4, .inl (nI (cnz lf 64))), (0, .inr (.inr (some 147))), (1, .inl (nI w))], [.inl ((nI w) * (64 : Int32)), .inl (nI (tl + n)), .inr (.inr (U.2.2.2.1 147 12))], Hsb)) (C := []) rfl trivial ?_
        rw [(show ((nI w) * (64 : Int32)) = (nI (w * 64)) from (nI_mul (a := w) (b := 64)))]
        refine mw_go mu_g327 (k := 1) (f1 := (84, [(2, .inr (.inl lf)), (4, .inl (nI (cnz lf 64))), (0, .inr (.inr (some 147))), (1, .inl (nI w))], [.inr (.inl lf), .inl (nI (w * 64)), .inl (nI (tl + n)), .inr (.inr (U.2.2.2.1 147 12))], Hsb)) (C := []) rfl trivial ?_
        obtain ⟨t, ht1, ht2, ht3⟩ := cnz_low (lf := lf) (by omega)
        obtain ⟨rm1, rm2⟩ := in_room hin ht1 ht2 ht3 (fun s z => (bnc_is.mp z).1)
        obtain ⟨lf2, hlf2⟩ : ∃ y, y = (lf &&& (lf - (1 : Int64))) := ⟨_, rfl⟩
        have hoff : ∀ i, btz lf2 i = (btz lf i && decide (i ≠ t)) := fun i => by rw [hlf2]; exact low_off ht2 ht3 i
        have hcl : cnz lf2 64 + 1 = cnz lf 64 := (cnz_less ht2 (by rw [hoff]; simp) (fun i hi => by rw [hoff]; simp [hi]) 64).2 ht1
        have hins := in_step hin ht1 ht2 ht3 hoff
        obtain ⟨hr1, hr2⟩ := in_in2 hins
        have hroom := que_room (n := n + 1) hinj (fun i hi => (hqu i hi).2) hr1 (fun i hi => (bnc_is.mp (hr2 i hi)).1) (fun i j hi hj he => hnot i hi (by rw [he]; exact (bnc_is.mp (hr2 j hj)).2.2))
        refine mw_cIe (fun _ => rfl) trivial (jl_tz_ok (d := (d + 2)) lf) ?_
        rw [show jl_tz lf = nI t from tz64 ht1 ht2 ht3]
        refine mw_go mu_g327 (k := 1) (f1 := (88, [(2, .inr (.inl lf)), (4, .inl (nI (cnz lf 64))), (0, .inr (.inr (some 147))), (1, .inl (nI w))], [.inl ((nI (w * 64)) + (nI t)), .inl (nI (tl + n)), .inr (.inr (U.2.2.2.1 147 12))], Hsb)) (C := []) rfl trivial ?_
        rw [(show ((nI (w * 64)) + (nI t)) = (nI ((w * 64) + t)) from (nI_add (w * 64) t))]
        refine mw_go mu_g327 (k := 1) (f1 := (89, [(2, .inr (.inl lf)), (4, .inl (nI (cnz lf 64))), (0, .inr (.inr (some 147))), (1, .inl (nI w))], [], (mu_si Hsb (mu_p (U.2.2.2.1 147 12)) (nI (tl + n)).toNatClampNeg (nI ((w * 64) + t))))) (C := [mu_is Hsb (U.2.2.2.1 147 12) 100, vp_in (nI (tl + n)) (mu_n Hsb (mu_p (U.2.2.2.1 147 12)))]) rfl (show (mu_is Hsb (U.2.2.2.1 147 12) 100) ∧ (vp_in (nI (tl + n)) (mu_n Hsb (mu_p (U.2.2.2.1 147 12)))) from ⟨(ub.iA db rfl rfl (show Vb.2.2.2.1 147 12 = (U.2.2.2.1 147 12) from ((zzb.r 147 12 rfl).trans (zza.r 147 12 rfl)))), (ub.vA (i := tl + n) db rfl rfl (show Vb.2.2.2.1 147 12 = (U.2.2.2.1 147 12) from ((zzb.r 147 12 rfl).trans (zza.r 147 12 rfl))) (show (Vb.2.2.1 147 12).1 = (U.2.2.1 147 12).1 from ((zzb.n 147 12 rfl).trans (zza.n 147 12 rfl))) (by omega) (by omega))⟩) ?_
        rw [(show (nI (tl + n)).toNatClampNeg = tl + n from nI_clamp (by omega))]
        obtain ⟨u6, r6, d6⟩ : um m (mu_si Hsb (mu_p (U.2.2.2.1 147 12)) (tl + n) (nI ((w * 64) + t))) ∧ ur m C Hsb (mu_si Hsb (mu_p (U.2.2.2.1 147 12)) (tl + n) (nI ((w * 64) + t))) ∧ ud m (mu_si Hsb (mu_p (U.2.2.2.1 147 12)) (tl + n) (nI ((w * 64) + t))) = (upA Vb 147 12 (tl + n) (nI ((w * 64) + t))) := ub.sA (C := C) db rfl rfl (show Vb.2.2.2.1 147 12 = (U.2.2.2.1 147 12) from ((zzb.r 147 12 rfl).trans (zza.r 147 12 rfl)))
        generalize (mu_si Hsb (mu_p (U.2.2.2.1 147 12)) (tl + n) (nI ((w * 64) + t))) = Q6 at u6 r6 d6 ⊢
        have ht6 : ur m C H Q6 := htb.trans r6
        refine mw_go mu_g327 (k := 3) (f1 := (94, [(2, .inr (.inl lf)), (4, .inl (nI (cnz lf 64))), (0, .inr (.inr (some 147))), (1, .inl (nI w))], [.inl (mu_i Q6 147 18), .inr (.inr (some 147))], Q6)) (C := [mu_is Q6 (some 147) 2]) rfl (show mu_is Q6 (some 147) 2 from (u6.1.1.is rfl)) ?_
        rw [(show mu_i Q6 147 18 = (nI (tl + n)) from (ud_i (U := (upA Vb 147 12 (tl + n) (nI ((w * 64) + t)))) (m := m) (P := 147) (j := 18) d6 rfl).trans hQ1)]
        refine mw_go mu_g327 (k := 2) (f1 := (96, [(2, .inr (.inl lf)), (4, .inl (nI (cnz lf 64))), (0, .inr (.inr (some 147))), (1, .inl (nI w))], [.inl ((nI (tl + n)) + (1 : Int32)), .inr (.inr (some 147))], Q6)) (C := []) rfl trivial ?_
        rw [(show ((nI (tl + n)) + (1 : Int32)) = (nI ((tl + n) + 1)) from (nI_add (tl + n) 1))]
        refine mw_go mu_g327 (k := 1) (f1 := (99, [(2, .inr (.inl lf)), (4, .inl (nI (cnz lf 64))), (0, .inr (.inr (some 147))), (1, .inl (nI w))], [], (mu_si Q6 147 18 (nI ((tl + n) + 1))))) (C := [mu_is Q6 (some 147) 2]) rfl (show mu_is Q6 (some 147) 2 from (u6.1.1.is rfl)) ?_
        obtain ⟨u7, r7, d7⟩ : um m (mu_si Q6 147 18 (nI ((tl + n) + 1))) ∧ ur m C Q6 (mu_si Q6 147 18 (nI ((tl + n) + 1))) ∧ ud m (mu_si Q6 147 18 (nI ((tl + n) + 1))) = (upI (upA Vb 147 12 (tl + n) (nI ((w * 64) + t))) 147 18 (nI ((tl + n) + 1))) := u6.sI (C := C) d6 rfl
        generalize (mu_si Q6 147 18 (nI ((tl + n) + 1))) = Q7 at u7 r7 d7 ⊢
        have ht7 : ur m C H Q7 := ht6.trans r7
        refine mw_go mu_g327 (k := 6) (f1 := (105, [(2, .inr (.inl (lf &&& (lf - (1 : Int64))))), (4, .inl (nI (cnz lf 64))), (0, .inr (.inr (some 147))), (1, .inl (nI w))], [], Q7)) (C := []) rfl trivial ?_
        rw [← hlf2]
        refine mw_go mu_g327 (k := 1) (f1 := (108, [(4, .inl ((nI (cnz lf 64)) + (-1))), (2, .inr (.inl lf2)), (0, .inr (.inr (some 147))), (1, .inl (nI w))], [], Q7)) (C := []) rfl trivial ?_
        rw [(show ((nI (cnz lf 64)) + (-1)) = (nI ((cnz lf 64) - 1)) from ((Int32.sub_eq_add_neg _ _).symm.trans (nI_sub (a := cnz lf 64) (b := 1) (by omega))))]
        rw [show (nI ((cnz lf 64) - 1)) = nI (cnz lf2 64) from congrArg nI (by omega)]
        refine mw_go mu_g327 (k := 1) (f1 := (66, [(4, .inl (nI (cnz lf2 64))), (2, .inr (.inl lf2)), (0, .inr (.inr (some 147))), (1, .inl (nI w))], [], Q7)) (C := []) rfl trivial ?_
        exact mw_sub (by simp) (ihb (lf2, Q7) ⟨u7, ht7, (show uq F327b (upL Va 152 w (((Va.2.2.2.2.1 152) w) &&& (lf0 ^^^ (-1 : Int64)))) (ud m Q7) from by rw [d7]; exact ((zzb.A rfl).I rfl)), (show QNI (ud m Q7) U tl T w lf2 from by rw [d7]; exact ⟨n + 1, fun i => if i = n then 64 * w + t else ls1 i, ⟨rfl, fun i hi => (by show (if tl + i = tl + n then nI (w * 64 + t) else (Vb.2.2.1 147 12).2 (tl + i)) = nI (if i = n then 64 * w + t else ls1 i); rw [show w * 64 + t = 64 * w + t by omega]; by_cases ei : i = n; (rw [if_pos (by omega), if_pos ei]); (rw [if_neg (by omega), if_neg ei]; exact hQ2 i (by omega))), fun i hi => (by show (if i = tl + n then nI (w * 64 + t) else (Vb.2.2.1 147 12).2 i) = _; rw [if_neg (by omega)]; exact hQ3 i hi)⟩, hins⟩)⟩ (by show cnz lf2 64 < cnz lf 64; omega))
      · -- 111: not 0 < (nI (cnz lf 64))
        have nh4 : ¬ 0 < (cnz lf 64) := fun z => h4 (show nI 0 < nI (cnz lf 64) from (nI_ltI (by omega) (by omega)).mpr z)
        refine mw_go mu_g327 (k := 1) (f1 := (114, [(1, .inl ((nI w) + 1)), (2, .inr (.inl lf)), (4, .inl (nI (cnz lf 64))), (0, .inr (.inr (some 147)))], [], Hsb)) (C := []) rfl trivial ?_
        rw [(show ((nI w) + 1) = (nI (w + 1)) from (nI_add w 1))]
        refine mw_go mu_g327 (k := 1) (f1 := (8, [(1, .inl (nI (w + 1))), (2, .inr (.inl lf)), (4, .inl (nI (cnz lf 64))), (0, .inr (.inr (some 147)))], [], Hsb)) (C := []) rfl trivial ?_
        exact mw_sub (by simp) (iha (w + 1, Hsb) ⟨ub, htb, (show uq F327a U (ud m Hsb) from by rw [db]; exact ((zza.L rfl).tr zzb rfl)), (show bf ≤ (w + 1) ∧ (w + 1) ≤ bt from (by omega)), (show ∀ i, (ud m Hsb).2.2.2.2.1 152 i = if bf ≤ i ∧ i < (w + 1) then U.2.2.2.2.1 152 i &&& ((U.2.2.2.2.1 146 i &&& U.2.2.2.2.1 152 i) ^^^ (-1 : Int64)) else U.2.2.2.2.1 152 i from by rw [db]; exact (fun i => by rw [(show Vb.2.2.2.2.1 152 = (upL Va 152 w (((Va.2.2.2.2.1 152) w) &&& (lf0 ^^^ (-1 : Int64)))).2.2.2.2.1 152 from (zzb.l 152 rfl))]; show (if (152 = 152 ∧ i = w) then Va.2.2.2.2.1 152 w &&& (lf0 ^^^ (-1 : Int64)) else Va.2.2.2.2.1 152 i) = _; by_cases y : i = w; (rw [if_pos ⟨rfl, y⟩, if_pos (by omega), y, hu0, hlf0, hu0]); (rw [if_neg (fun z => y z.2), hU i]; by_cases z : bf ≤ i ∧ i < w; (rw [if_pos z, if_pos (by omega)]); (rw [if_neg z, if_neg (by omega)])))), (show QNX (ud m Hsb) U tl T (w + 1) from by rw [db]; exact ⟨n, ls1, hQ, in_end hin (cnz_none 64 (by omega))⟩)⟩ (by show bt - (w + 1) < bt - w; omega))
    · -- 60: not (lg_cmp lf0 (0 : Int64)) = 0
      refine mw_go mu_g327 (k := 1) (f1 := (61, [(2, .inr (.inl lf0)), (1, .inl (nI w)), (0, .inr (.inr (some 147)))], [.inr (.inl lf0)], Q2)) (C := []) rfl trivial ?_
      refine mw_cIe (fun _ => rfl) trivial (jl_bits_ok (d := (d + 3)) lf0) ?_
      rw [show jl_bits lf0 = nI (cnz lf0 64) from jl_bits_c]
      refine mw_go mu_g327 (k := 1) (f1 := (66, [(4, .inl (nI (cnz lf0 64))), (2, .inr (.inl lf0)), (1, .inl (nI w)), (0, .inr (.inr (some 147)))], [], Q2)) (C := []) rfl trivial ?_
      refine mw_sub (L' := [(2, .inr (.inl lf0)), (4, .inl (nI (cnz lf0 64))), (0, .inr (.inr (some 147))), (1, .inl (nI w))]) (by simp) ?_
      refine mw_down (α := Int64 × mu_H) (fun zs => (66, [(2, .inr (.inl zs.1)), (4, .inl (nI (cnz zs.1 64))), (0, .inr (.inr (some 147))), (1, .inl (nI w))], [], zs.2)) (fun zs => cnz zs.1 64) (fun zs => um m zs.2 ∧ ur m C H zs.2 ∧ (uq F327b (upL Va 152 w (((Va.2.2.2.2.1 152) w) &&& (lf0 ^^^ (-1 : Int64)))) (ud m zs.2)) ∧ (QNI (ud m zs.2) U tl T w zs.1)) (fun zs hzb ihb => ?_) (lf0, Q2) ⟨u2, ht2, (show uq F327b (upL Va 152 w (((Va.2.2.2.2.1 152) w) &&& (lf0 ^^^ (-1 : Int64)))) (ud m Q2) from by rw [d2]; exact uq.refl _ _), (show QNI (ud m Q2) U tl T w lf0 from by rw [d2]; exact ⟨n0, ls0, hQ0, in_start hen hlq⟩)⟩
      obtain ⟨lf, Hsb⟩ := zs
      obtain ⟨ub, htb, db, hI⟩ := hzb
      have ub : um m Hsb := ub
      have htb : ur m C H Hsb := htb
      have zzb : uq F327b (upL Va 152 w (((Va.2.2.2.2.1 152) w) &&& (lf0 ^^^ (-1 : Int64)))) (ud m Hsb) := db
      have hI : QNI (ud m Hsb) U tl T w lf := hI
      obtain ⟨Vb, db⟩ : ∃ V, ud m Hsb = V := ⟨_, rfl⟩
      rw [db] at zzb hI
      show mu_W _ _ (66, [(2, .inr (.inl lf)), (4, .inl (nI (cnz lf 64))), (0, .inr (.inr (some 147))), (1, .inl (nI w))], [], Hsb) _
      obtain ⟨n, ls1, hQ, hin⟩ := id hI
      replace hI := HID.mk hI
      have hcb := cnz_b (lf := lf) 64
      obtain ⟨hQ1, hQ2, hQ3⟩ := id hQ
      refine mw_go mu_g327 (k := 1) (f1 := (68, [(2, .inr (.inl lf)), (4, .inl (nI (cnz lf 64))), (0, .inr (.inr (some 147))), (1, .inl (nI w))], [.inl (nI (cnz lf 64))], Hsb)) (C := []) rfl trivial ?_
      refine mw_if (P := 0 < (nI (cnz lf 64))) (a := 71) (b := 111) (fun _ => rfl) trivial (fun h9 => ?_) (fun h9 => ?_)
      · -- 71: 0 < (nI (cnz lf 64))
        have nh9 : 0 < (cnz lf 64) := (nI_ltI (by omega) (by omega)).mp (show nI 0 < nI (cnz lf 64) from h9)
        refine mw_go mu_g327 (k := 2) (f1 := (75, [(2, .inr (.inl lf)), (4, .inl (nI (cnz lf 64))), (0, .inr (.inr (some 147))), (1, .inl (nI w))], [.inr (.inr (mu_r Hsb 147 12))], Hsb)) (C := [mu_is Hsb (some 147) 2]) rfl (show mu_is Hsb (some 147) 2 from (ub.1.1.is rfl)) ?_
        rw [(show mu_r Hsb 147 12 = (U.2.2.2.1 147 12) from (ud_q (U := Vb) (m := m) (P := 147) (j := 12) db rfl).trans ((zzb.r 147 12 rfl).trans (zza.r 147 12 rfl)))]
        refine mw_go mu_g327 (k := 2) (f1 := (79, [(2, .inr (.inl lf)), (4, .inl (nI (cnz lf 64))), (0, .inr (.inr (some 147))), (1, .inl (nI w))], [.inl (mu_i Hsb 147 18), .inr (.inr (U.2.2.2.1 147 12))], Hsb)) (C := [mu_is Hsb (some 147) 2]) rfl (show mu_is Hsb (some 147) 2 from (ub.1.1.is rfl)) ?_
        rw [(show mu_i Hsb 147 18 = (nI (tl + n)) from (ud_i (U := Vb) (m := m) (P := 147) (j := 18) db rfl).trans hQ1)]
        refine mw_go mu_g327 (k := 3) (f1 := (83, [(2, .inr (.inl lf)), (4, .inl (nI (cnz lf 64))), (0, .inr (.inr (some 147))), (1, .inl (nI w))], [.inl ((nI w) * (64 : Int32)), .inl (nI (tl + n)), .inr (.inr (U.2.2.2.1 147 12))], Hsb)) (C := []) rfl trivial ?_
        rw [(show ((nI w) * (64 : Int32)) = (nI (w * 64)) from (nI_mul (a := w) (b := 64)))]
        refine mw_go mu_g327 (k := 1) (f1 := (84, [(2, .inr (.inl lf)), (4, .inl (nI (cnz lf 64))), (0, .inr (.inr (some 147))), (1, .inl (nI w))], [.inr (.inl lf), .inl (nI (w * 64)), .inl (nI (tl + n)), .inr (.inr (U.2.2.2.1 147 12))], Hsb)) (C := []) rfl trivial ?_
        obtain ⟨t, ht1, ht2, ht3⟩ := cnz_low (lf := lf) (by omega)
        obtain ⟨rm1, rm2⟩ := in_room hin ht1 ht2 ht3 (fun s z => (bnc_is.mp z).1)
        obtain ⟨lf2, hlf2⟩ : ∃ y, y = (lf &&& (lf - (1 : Int64))) := ⟨_, rfl⟩
        have hoff : ∀ i, btz lf2 i = (btz lf i && decide (i ≠ t)) := fun i => by rw [hlf2]; exact low_off ht2 ht3 i
        have hcl : cnz lf2 64 + 1 = cnz lf 64 := (cnz_less ht2 (by rw [hoff]; simp) (fun i hi => by rw [hoff]; simp [hi]) 64).2 ht1
        have hins := in_step hin ht1 ht2 ht3 hoff
        obtain ⟨hr1, hr2⟩ := in_in2 hins
        have hroom := que_room (n := n + 1) hinj (fun i hi => (hqu i hi).2) hr1 (fun i hi => (bnc_is.mp (hr2 i hi)).1) (fun i j hi hj he => hnot i hi (by rw [he]; exact (bnc_is.mp (hr2 j hj)).2.2))
        refine mw_cIe (fun _ => rfl) trivial (jl_tz_ok (d := (d + 2)) lf) ?_
        rw [show jl_tz lf = nI t from tz64 ht1 ht2 ht3]
        refine mw_go mu_g327 (k := 1) (f1 := (88, [(2, .inr (.inl lf)), (4, .inl (nI (cnz lf 64))), (0, .inr (.inr (some 147))), (1, .inl (nI w))], [.inl ((nI (w * 64)) + (nI t)), .inl (nI (tl + n)), .inr (.inr (U.2.2.2.1 147 12))], Hsb)) (C := []) rfl trivial ?_
        rw [(show ((nI (w * 64)) + (nI t)) = (nI ((w * 64) + t)) from (nI_add (w * 64) t))]
        refine mw_go mu_g327 (k := 1) (f1 := (89, [(2, .inr (.inl lf)), (4, .inl (nI (cnz lf 64))), (0, .inr (.inr (some 147))), (1, .inl (nI w))], [], (mu_si Hsb (mu_p (U.2.2.2.1 147 12)) (nI (tl + n)).toNatClampNeg (nI ((w * 64) + t))))) (C := [mu_is Hsb (U.2.2.2.1 147 12) 100, vp_in (nI (tl + n)) (mu_n Hsb (mu_p (U.2.2.2.1 147 12)))]) rfl (show (mu_is Hsb (U.2.2.2.1 147 12) 100) ∧ (vp_in (nI (tl + n)) (mu_n Hsb (mu_p (U.2.2.2.1 147 12)))) from ⟨(ub.iA db rfl rfl (show Vb.2.2.2.1 147 12 = (U.2.2.2.1 147 12) from ((zzb.r 147 12 rfl).trans (zza.r 147 12 rfl)))), (ub.vA (i := tl + n) db rfl rfl (show Vb.2.2.2.1 147 12 = (U.2.2.2.1 147 12) from ((zzb.r 147 12 rfl).trans (zza.r 147 12 rfl))) (show (Vb.2.2.1 147 12).1 = (U.2.2.1 147 12).1 from ((zzb.n 147 12 rfl).trans (zza.n 147 12 rfl))) (by omega) (by omega))⟩) ?_
        rw [(show (nI (tl + n)).toNatClampNeg = tl + n from nI_clamp (by omega))]
        obtain ⟨u11, r11, d11⟩ : um m (mu_si Hsb (mu_p (U.2.2.2.1 147 12)) (tl + n) (nI ((w * 64) + t))) ∧ ur m C Hsb (mu_si Hsb (mu_p (U.2.2.2.1 147 12)) (tl + n) (nI ((w * 64) + t))) ∧ ud m (mu_si Hsb (mu_p (U.2.2.2.1 147 12)) (tl + n) (nI ((w * 64) + t))) = (upA Vb 147 12 (tl + n) (nI ((w * 64) + t))) := ub.sA (C := C) db rfl rfl (show Vb.2.2.2.1 147 12 = (U.2.2.2.1 147 12) from ((zzb.r 147 12 rfl).trans (zza.r 147 12 rfl)))
        generalize (mu_si Hsb (mu_p (U.2.2.2.1 147 12)) (tl + n) (nI ((w * 64) + t))) = Q11 at u11 r11 d11 ⊢
        have ht11 : ur m C H Q11 := htb.trans r11
        refine mw_go mu_g327 (k := 3) (f1 := (94, [(2, .inr (.inl lf)), (4, .inl (nI (cnz lf 64))), (0, .inr (.inr (some 147))), (1, .inl (nI w))], [.inl (mu_i Q11 147 18), .inr (.inr (some 147))], Q11)) (C := [mu_is Q11 (some 147) 2]) rfl (show mu_is Q11 (some 147) 2 from (u11.1.1.is rfl)) ?_
        rw [(show mu_i Q11 147 18 = (nI (tl + n)) from (ud_i (U := (upA Vb 147 12 (tl + n) (nI ((w * 64) + t)))) (m := m) (P := 147) (j := 18) d11 rfl).trans hQ1)]
        refine mw_go mu_g327 (k := 2) (f1 := (96, [(2, .inr (.inl lf)), (4, .inl (nI (cnz lf 64))), (0, .inr (.inr (some 147))), (1, .inl (nI w))], [.inl ((nI (tl + n)) + (1 : Int32)), .inr (.inr (some 147))], Q11)) (C := []) rfl trivial ?_
        rw [(show ((nI (tl + n)) + (1 : Int32)) = (nI ((tl + n) + 1)) from (nI_add (tl + n) 1))]
        refine mw_go mu_g327 (k := 1) (f1 := (99, [(2, .inr (.inl lf)), (4, .inl (nI (cnz lf 64))), (0, .inr (.inr (some 147))), (1, .inl (nI w))], [], (mu_si Q11 147 18 (nI ((tl + n) + 1))))) (C := [mu_is Q11 (some 147) 2]) rfl (show mu_is Q11 (some 147) 2 from (u11.1.1.is rfl)) ?_
        obtain ⟨u12, r12, d12⟩ : um m (mu_si Q11 147 18 (nI ((tl + n) + 1))) ∧ ur m C Q11 (mu_si Q11 147 18 (nI ((tl + n) + 1))) ∧ ud m (mu_si Q11 147 18 (nI ((tl + n) + 1))) = (upI (upA Vb 147 12 (tl + n) (nI ((w * 64) + t))) 147 18 (nI ((tl + n) + 1))) := u11.sI (C := C) d11 rfl
        generalize (mu_si Q11 147 18 (nI ((tl + n) + 1))) = Q12 at u12 r12 d12 ⊢
        have ht12 : ur m C H Q12 := ht11.trans r12
        refine mw_go mu_g327 (k := 6) (f1 := (105, [(2, .inr (.inl (lf &&& (lf - (1 : Int64))))), (4, .inl (nI (cnz lf 64))), (0, .inr (.inr (some 147))), (1, .inl (nI w))], [], Q12)) (C := []) rfl trivial ?_
        rw [← hlf2]
        refine mw_go mu_g327 (k := 1) (f1 := (108, [(4, .inl ((nI (cnz lf 64)) + (-1))), (2, .inr (.inl lf2)), (0, .inr (.inr (some 147))), (1, .inl (nI w))], [], Q12)) (C := []) rfl trivial ?_
        rw [(show ((nI (cnz lf 64)) + (-1)) = (nI ((cnz lf 64) - 1)) from ((Int32.sub_eq_add_neg _ _).symm.trans (nI_sub (a := cnz lf 64) (b := 1) (by omega))))]
        rw [show (nI ((cnz lf 64) - 1)) = nI (cnz lf2 64) from congrArg nI (by omega)]
        refine mw_go mu_g327 (k := 1) (f1 := (66, [(4, .inl (nI (cnz lf2 64))), (2, .inr (.inl lf2)), (0, .inr (.inr (some 147))), (1, .inl (nI w))], [], Q12)) (C := []) rfl trivial ?_
        exact mw_sub (by simp) (ihb (lf2, Q12) ⟨u12, ht12, (show uq F327b (upL Va 152 w (((Va.2.2.2.2.1 152) w) &&& (lf0 ^^^ (-1 : Int64)))) (ud m Q12) from by rw [d12]; exact ((zzb.A rfl).I rfl)), (show QNI (ud m Q12) U tl T w lf2 from by rw [d12]; exact ⟨n + 1, fun i => if i = n then 64 * w + t else ls1 i, ⟨rfl, fun i hi => (by show (if tl + i = tl + n then nI (w * 64 + t) else (Vb.2.2.1 147 12).2 (tl + i)) = nI (if i = n then 64 * w + t else ls1 i); rw [show w * 64 + t = 64 * w + t by omega]; by_cases ei : i = n; (rw [if_pos (by omega), if_pos ei]); (rw [if_neg (by omega), if_neg ei]; exact hQ2 i (by omega))), fun i hi => (by show (if i = tl + n then nI (w * 64 + t) else (Vb.2.2.1 147 12).2 i) = _; rw [if_neg (by omega)]; exact hQ3 i hi)⟩, hins⟩)⟩ (by show cnz lf2 64 < cnz lf 64; omega))
      · -- 111: not 0 < (nI (cnz lf 64))
        have nh9 : ¬ 0 < (cnz lf 64) := fun z => h9 (show nI 0 < nI (cnz lf 64) from (nI_ltI (by omega) (by omega)).mpr z)
        refine mw_go mu_g327 (k := 1) (f1 := (114, [(1, .inl ((nI w) + 1)), (2, .inr (.inl lf)), (4, .inl (nI (cnz lf 64))), (0, .inr (.inr (some 147)))], [], Hsb)) (C := []) rfl trivial ?_
        rw [(show ((nI w) + 1) = (nI (w + 1)) from (nI_add w 1))]
        refine mw_go mu_g327 (k := 1) (f1 := (8, [(1, .inl (nI (w + 1))), (2, .inr (.inl lf)), (4, .inl (nI (cnz lf 64))), (0, .inr (.inr (some 147)))], [], Hsb)) (C := []) rfl trivial ?_
        exact mw_sub (by simp) (iha (w + 1, Hsb) ⟨ub, htb, (show uq F327a U (ud m Hsb) from by rw [db]; exact ((zza.L rfl).tr zzb rfl)), (show bf ≤ (w + 1) ∧ (w + 1) ≤ bt from (by omega)), (show ∀ i, (ud m Hsb).2.2.2.2.1 152 i = if bf ≤ i ∧ i < (w + 1) then U.2.2.2.2.1 152 i &&& ((U.2.2.2.2.1 146 i &&& U.2.2.2.2.1 152 i) ^^^ (-1 : Int64)) else U.2.2.2.2.1 152 i from by rw [db]; exact (fun i => by rw [(show Vb.2.2.2.2.1 152 = (upL Va 152 w (((Va.2.2.2.2.1 152) w) &&& (lf0 ^^^ (-1 : Int64)))).2.2.2.2.1 152 from (zzb.l 152 rfl))]; show (if (152 = 152 ∧ i = w) then Va.2.2.2.2.1 152 w &&& (lf0 ^^^ (-1 : Int64)) else Va.2.2.2.2.1 152 i) = _; by_cases y : i = w; (rw [if_pos ⟨rfl, y⟩, if_pos (by omega), y, hu0, hlf0, hu0]); (rw [if_neg (fun z => y z.2), hU i]; by_cases z : bf ≤ i ∧ i < w; (rw [if_pos z, if_pos (by omega)]); (rw [if_neg z, if_neg (by omega)])))), (show QNX (ud m Hsb) U tl T (w + 1) from by rw [db]; exact ⟨n, ls1, hQ, in_end hin (cnz_none 64 (by omega))⟩)⟩ (by show bt - (w + 1) < bt - w; omega))
  · -- 117: not (nI w) < (nI bt)
    have nh1 : ¬ w < bt := fun z => h1 (show nI w < nI bt from (nI_ltI (by omega) (by omega)).mpr z)
    have hwb2 : w = bt := by omega
    obtain ⟨hq1, hq2, hq3⟩ := id hQ0
    have hrl := que_room (n := n0) hinj (fun i hi => (hqu i hi).2) hen.1 (fun i hi => (bnc_is.mp ((hen.2 (ls0 i)).mp ⟨i, hi, rfl⟩).2).1) (fun i j hi hj he => hnot i hi (by rw [he]; exact (bnc_is.mp ((hen.2 (ls0 j)).mp ⟨j, hj, rfl⟩).2).2.2))
    have hqN : ∀ i, i < tl + n0 → (Va.2.2.1 147 12).2 i = nI (if i < tl then qu i else ls0 (i - tl)) ∧ (if i < tl then qu i else ls0 (i - tl)) < T := fun i hi => by
      by_cases y : i < tl
      · rw [if_pos y, hq3 i y]; exact hqu i y
      · rw [if_neg y]
        have y2 := hq2 (i - tl) (by omega)
        rw [show tl + (i - tl) = i by omega] at y2
        exact ⟨y2, (bnc_is.mp ((hen.2 (ls0 (i - tl))).mp ⟨i - tl, by omega, rfl⟩).2).1⟩
    have hbn : ∀ t, BNC U T t = true ↔ t < 64 * w ∧ BNC U T t = true := fun t => ⟨fun y => ⟨(by have y1 := bnc_is.mp y; have y2 := y1.2.1; by_cases y4 : t < 64 * w; (exact y4); (have y3 := hz.2 (t / 64) (by omega) (by omega); unfold bts at y2; rw [y3, btz_0] at y2; cases y2)), y⟩, fun y => y.2⟩
    have hqs : ∀ t, (∃ i, i < tl + n0 ∧ (if i < tl then qu i else ls0 (i - tl)) = t) ↔ (∃ i, i < tl ∧ qu i = t) ∨ (t < T ∧ bts (U.2.2.2.2.1 146) t = true ∧ bts (U.2.2.2.2.1 152) t = true) := fun t => by
      rw [← bnc_is, hbn t, ← hen.2 t]
      constructor
      · rintro ⟨i, i1, i2⟩
        by_cases y : i < tl
        · rw [if_pos y] at i2; exact Or.inl ⟨i, y, i2⟩
        · rw [if_neg y] at i2; exact Or.inr ⟨i - tl, by omega, i2⟩
      · rintro (⟨i, i1, i2⟩ | ⟨i, i1, i2⟩)
        · exact ⟨i, by omega, by rw [if_pos i1]; exact i2⟩
        · exact ⟨tl + i, by omega, by rw [if_neg (by omega), show tl + i - tl = i by omega]; exact i2⟩
    obtain ⟨qN, hqNd⟩ : ∃ f : Nat → Nat, f = fun i => if i < tl then qu i else ls0 (i - tl) := ⟨_, rfl⟩
    have hqN : ∀ i, i < tl + n0 → (Va.2.2.1 147 12).2 i = nI (qN i) ∧ qN i < T := by rw [hqNd]; exact hqN
    have hqs : ∀ t, (∃ i, i < tl + n0 ∧ qN i = t) ↔ (∃ i, i < tl ∧ qu i = t) ∨ (t < T ∧ bts (U.2.2.2.2.1 146) t = true ∧ bts (U.2.2.2.2.1 152) t = true) := by rw [hqNd]; exact hqs
    have hqj : ∀ i j, i < tl + n0 → j < tl + n0 → qN i = qN j → i = j := fun i j hi hj he => by
      rw [hqNd] at he
      have he : (if i < tl then qu i else ls0 (i - tl)) = (if j < tl then qu j else ls0 (j - tl)) := he
      have hne : ∀ i j, i < tl → j < n0 → ¬ qu i = ls0 j := fun i j hi hj he => hnot i hi (by rw [he]; exact (bnc_is.mp ((hen.2 (ls0 j)).mp ⟨j, hj, rfl⟩).2).2.2)
      by_cases h1 : i < tl <;> by_cases h2 : j < tl
      · rw [if_pos h1, if_pos h2] at he; exact hinj i j h1 h2 he
      · rw [if_pos h1, if_neg h2] at he; exact absurd he (hne i _ h1 (by omega))
      · rw [if_neg h1, if_pos h2] at he; exact absurd he.symm (hne j _ h2 (by omega))
      · rw [if_neg h1, if_neg h2] at he
        rcases Nat.lt_or_ge (i - tl) (j - tl) with y | y
        · have := hen.1 _ _ y (by omega); omega
        · rcases Nat.lt_or_ge (j - tl) (i - tl) with z | z
          · have := hen.1 _ _ z (by omega); omega
          · omega
    have hz52 : ∀ i, i < c → Va.2.2.2.2.1 152 i = 0 := fun i hi => by rw [hU i, hzc i hi]; by_cases y : bf ≤ i ∧ i < w; (rw [if_pos y]; exact zero_and); (rw [if_neg y])
    have hb52 : ∀ t, t < T → (bts (Va.2.2.2.2.1 152) t = true ↔ bts (U.2.2.2.2.1 152) t = true ∧ ¬ bts (U.2.2.2.2.1 146) t = true) := fun t ht => by
      by_cases y : bf ≤ t / 64 ∧ t / 64 < w
      · have e0 : bts (Va.2.2.2.2.1 152) t = (bts (U.2.2.2.2.1 152) t && !(bts (U.2.2.2.2.1 146) t && bts (U.2.2.2.2.1 152) t)) := by
          unfold bts
          rw [hU (t / 64), if_pos y, btz_and, btz_xm1 (Nat.mod_lt _ (by decide)), btz_and]
        rw [e0]
        cases bts (U.2.2.2.2.1 152) t <;> cases bts (U.2.2.2.2.1 146) t <;> simp
      · have e0 : bts (Va.2.2.2.2.1 152) t = bts (U.2.2.2.2.1 152) t := by unfold bts; rw [hU (t / 64), if_neg y]
        have e1 : bts (U.2.2.2.2.1 146) t = false := by unfold bts; rw [hz.2 (t / 64) (by omega) (by omega), btz_0]
        rw [e0, e1]; simp
    replace hL := HID.mk hL
    have hs52 : ∀ s, s < 64 * wn → bts (Va.2.2.2.2.1 152) s = true → s < T := fun s hs y => by
      refine hT152 s hs ?_
      by_cases z : bf ≤ s / 64 ∧ s / 64 < w
      · unfold bts at y ⊢
        rw [hU (s / 64), if_pos z, btz_and, Bool.and_eq_true] at y
        exact y.1
      · unfold bts at y ⊢
        rw [hU (s / 64), if_neg z] at y
        exact y
    refine mw_go mu_g327 (k := 3) (f1 := (122, [(1, .inl (nI w)), (0, .inr (.inr (some 147)))], [.inl (mu_i Hsa 147 17), .inr (.inr (some 147))], Hsa)) (C := [mu_is Hsa (some 147) 2]) rfl (show mu_is Hsa (some 147) 2 from (ua.1.1.is rfl)) ?_
    rw [(show mu_i Hsa 147 17 = (nI hd) from (ud_i (U := Va) (m := m) (P := 147) (j := 17) da rfl).trans ((zza.i 147 17 rfl).trans hhd))]
    refine mw_go mu_g327 (k := 2) (f1 := (124, [(1, .inl (nI w)), (0, .inr (.inr (some 147)))], [.inl ((nI hd) + (1 : Int32)), .inr (.inr (some 147))], Hsa)) (C := []) rfl trivial ?_
    rw [(show ((nI hd) + (1 : Int32)) = (nI (hd + 1)) from (nI_add hd 1))]
    refine mw_go mu_g327 (k := 1) (f1 := (127, [(1, .inl (nI w)), (0, .inr (.inr (some 147)))], [], (mu_si Hsa 147 17 (nI (hd + 1))))) (C := [mu_is Hsa (some 147) 2]) rfl (show mu_is Hsa (some 147) 2 from (ua.1.1.is rfl)) ?_
    obtain ⟨u13, r13, d13⟩ : um m (mu_si Hsa 147 17 (nI (hd + 1))) ∧ ur m C Hsa (mu_si Hsa 147 17 (nI (hd + 1))) ∧ ud m (mu_si Hsa 147 17 (nI (hd + 1))) = (upI Va 147 17 (nI (hd + 1))) := ua.sI (C := C) da rfl
    generalize (mu_si Hsa 147 17 (nI (hd + 1))) = Q13 at u13 r13 d13 ⊢
    have ht13 : ur m C H Q13 := hta.trans r13
    refine mw_go mu_g327 (k := 2) (f1 := (131, [(1, .inl (nI w)), (0, .inr (.inr (some 147)))], [.inl (mu_i Q13 147 17)], Q13)) (C := [mu_is Q13 (some 147) 2]) rfl (show mu_is Q13 (some 147) 2 from (u13.1.1.is rfl)) ?_
    rw [(show mu_i Q13 147 17 = (nI (hd + 1)) from (ud_i (U := (upI Va 147 17 (nI (hd + 1)))) (m := m) (P := 147) (j := 17) d13 rfl))]
    refine mw_go mu_g327 (k := 2) (f1 := (135, [(1, .inl (nI w)), (0, .inr (.inr (some 147)))], [.inl (mu_i Q13 147 21), .inl (nI (hd + 1))], Q13)) (C := [mu_is Q13 (some 147) 2]) rfl (show mu_is Q13 (some 147) 2 from (u13.1.1.is rfl)) ?_
    rw [(show mu_i Q13 147 21 = (nI ls) from (ud_i (U := (upI Va 147 17 (nI (hd + 1)))) (m := m) (P := 147) (j := 21) d13 rfl).trans ((zza.i 147 21 rfl).trans hls))]
    refine mw_if (P := (nI (hd + 1)) < (nI ls)) (a := 138) (b := 164) (fun _ => rfl) trivial (fun h14 => ?_) (fun h14 => ?_)
    · -- 138: (nI (hd + 1)) < (nI ls)
      have nh14 : (hd + 1) < ls := (nI_ltI (by omega) (by omega)).mp (show nI (hd + 1) < nI ls from h14)
      refine mw_go mu_g327 (k := 3) (f1 := (143, [(1, .inl (nI w)), (0, .inr (.inr (some 147)))], [.inr (.inr (mu_r Q13 147 6)), .inr (.inr (some 147))], Q13)) (C := [mu_is Q13 (some 147) 2]) rfl (show mu_is Q13 (some 147) 2 from (u13.1.1.is rfl)) ?_
      rw [(u13.1.1.r (p := 147) (j := 6) (q := 152) rfl)]
      refine mw_cI (fun _ => rfl) (show mu_is Q13 (some 147) 2 from (u13.1.1.is rfl)) (gr_emptied152 (d := (d + 3)) (C := C) (wn := wn) (c := c) u13 d13 ((show ((upI Va 147 17 (nI (hd + 1))).2.1 99 12) = (U.2.1 99 12) from (zza.i 99 12 rfl)).trans hg12) (by omega) ((show ((upI Va 147 17 (nI (hd + 1))).2.1 147 16) = (U.2.1 147 16) from (zza.i 147 16 rfl)).trans hcur) hc hz52) (fun x15 Q15 q15 => ?_)
      obtain ⟨u15, r15, z15, x0, hx1, hx2, hx16, hx0, hxa⟩ := q15
      have ht15 : ur m C H Q15 := ht13.trans r15
      obtain ⟨V15, d15⟩ : ∃ V, ud m Q15 = V := ⟨_, rfl⟩
      rw [d15] at z15 hx16
      have hx0 : ∀ i, i < x0 → Va.2.2.2.2.1 152 i = 0 := hx0
      rcases hxa with ⟨rfl, hx3, hx4⟩ | ⟨rfl, hx3⟩
      · -- emptied (0 : Int32)
        refine mw_if (P := (0 : Int32) = 0) (a := 149) (b := 164) (fun _ => rfl) trivial (fun h16 => ?_) (fun h16 => absurd (by decide) h16)
        refine mw_go mu_g327 (k := 4) (f1 := (155, [(1, .inl (nI w)), (0, .inr (.inr (some 147)))], [.inl (mu_i Q15 147 17), .inr (.inr (some 147)), .inr (.inr (some 147))], Q15)) (C := [mu_is Q15 (some 147) 2]) rfl (show mu_is Q15 (some 147) 2 from (u15.1.1.is rfl)) ?_
        rw [(show mu_i Q15 147 17 = (nI (hd + 1)) from (ud_i (U := V15) (m := m) (P := 147) (j := 17) d15 rfl).trans (z15.i 147 17 rfl))]
        refine mw_go mu_g327 (k := 1) (f1 := (157, [(1, .inl (nI w)), (0, .inr (.inr (some 147)))], [.inl (6 : Int32), .inl (nI (hd + 1)), .inr (.inr (some 147)), .inr (.inr (some 147))], Q15)) (C := []) rfl trivial ?_
        refine mw_cIe (fun _ => rfl) (show mu_is Q15 (some 147) 2 from (u15.1.1.is rfl)) (gr_node (d := (d + 3)) (r := hd + 1) (c := 6) u15 d15 (by (rw [(show (V15.2.2.1 147 10).1 = (U.2.2.1 147 10).1 from ((z15.n 147 10 rfl).trans (zza.n 147 10 rfl)))]; omega)) (by (rw [(show (V15.2.2.1 147 10).1 = (U.2.2.1 147 10).1 from ((z15.n 147 10 rfl).trans (zza.n 147 10 rfl)))]; omega))) ?_
        rw [show (V15.2.2.1 147 10).2 ((hd + 1) * 7 + 6) = nI (pl (hd + 1)) from (by rw [(show (V15.2.2.1 147 10) = (U.2.2.1 147 10) from ((z15.a 147 10 rfl).trans (zza.a 147 10 rfl)))]; exact (hpl (hd + 1) (by omega)).1)]
        refine mw_go mu_g327 (k := 1) (f1 := (163, [(1, .inl (nI w)), (0, .inr (.inr (some 147)))], [], (mu_si Q15 147 15 (nI (pl (hd + 1)))))) (C := [mu_is Q15 (some 147) 2]) rfl (show mu_is Q15 (some 147) 2 from (u15.1.1.is rfl)) ?_
        obtain ⟨u18, r18, d18⟩ : um m (mu_si Q15 147 15 (nI (pl (hd + 1)))) ∧ ur m C Q15 (mu_si Q15 147 15 (nI (pl (hd + 1)))) ∧ ud m (mu_si Q15 147 15 (nI (pl (hd + 1)))) = (upI V15 147 15 (nI (pl (hd + 1)))) := u15.sI (C := C) d15 rfl
        generalize (mu_si Q15 147 15 (nI (pl (hd + 1)))) = Q18 at u18 r18 d18 ⊢
        have ht18 : ur m C H Q18 := ht15.trans r18
        have hqe : uq F327h U (upI V15 147 15 (nI (pl (hd + 1)))) := (show uq F327h U (upI V15 147 15 (nI (pl (hd + 1)))) from (((((uq.refl F327h U).tr zza rfl).I rfl).tr z15 rfl).I rfl))
        refine mw_of (fun _ => mu_ret rfl trivial ⟨Q18, rfl, u18, ht18, (by rw [d18]; exact hqe.mono rfl), ?_⟩)
        rw [d18]
        refine Or.inl ⟨by omega, (z15.i 147 17 rfl), rfl, ⟨x0, hx16, hx2, ?_⟩, ((z15.a 147 10 rfl).trans (zza.a 147 10 rfl)), hqe, tl + n0, qN, (show (upI V15 147 15 (nI (pl (hd + 1)))).2.1 147 18 = Va.2.1 147 18 from (z15.i 147 18 rfl)).trans hq1, ?_, hrl, hqj, hqs, ?_, ?_⟩
        · rw [show (upI V15 147 15 (nI (pl (hd + 1)))).2.2.2.2.1 152 = Va.2.2.2.2.1 152 from (z15.l 152 rfl)]; exact hx0
        · rw [show (upI V15 147 15 (nI (pl (hd + 1)))).2.2.1 147 12 = Va.2.2.1 147 12 from (z15.a 147 12 rfl)]; exact hqN
        · rw [show (upI V15 147 15 (nI (pl (hd + 1)))).2.2.2.2.1 152 = Va.2.2.2.2.1 152 from (z15.l 152 rfl)]; exact hb52
        · rw [show (upI V15 147 15 (nI (pl (hd + 1)))).2.2.2.2.1 152 = Va.2.2.2.2.1 152 from (z15.l 152 rfl)]; exact hs52
      · -- emptied (1 : Int32)
        refine mw_if (P := (1 : Int32) = 0) (a := 149) (b := 164) (fun _ => rfl) trivial (fun h19 => absurd h19 (by decide)) (fun h19 => ?_)
        refine mw_sub (L' := [(0, .inr (.inr (some 147)))]) (by simp) ?_
        have hqe : uq F327h U V15 := (show uq F327h U V15 from ((((uq.refl F327h U).tr zza rfl).I rfl).tr z15 rfl))
        have hce : V15.2.2.1 147 10 = U.2.2.1 147 10 := ((z15.a 147 10 rfl).trans (zza.a 147 10 rfl))
        have hpe : V15.2.2.2.2.2 = U.2.2.2.2.2 := ((z15.2.2.2.2.2 rfl).trans (zza.2.2.2.2.2 rfl))
        have hlfe : lgf V15 ga gi = lgf U ga gi := lsf_q hgl hqe rfl rfl rfl
        refine gr_circleT (d := d) (C := C) (T := T) (R := R) (wn := wn) (ls := ls) (r := r) (k := k) (lv := lv) (p := p) (ab := ab) (la := la) (dab := dab) (lr := lr) (tl := tl + n0) (qu := qN) (pl := pl) (rx := rx) (mb := mb) (me := me) (nf := nf) (FS := FS) (ga := ga) (gi := gi) u15 d15 (hG.keep hqe rfl (NK.of_eq hce)) (hgl.q hqe (fun _ => rfl) (fun _ => rfl) rfl) ((show (V15.2.2.2.1 147 8) = (U.2.2.2.1 147 8) from ((z15.r 147 8 rfl).trans (zza.r 147 8 rfl))).trans hgo) ((show (V15.2.1 147 21) = (U.2.1 147 21) from ((z15.i 147 21 rfl).trans (zza.i 147 21 rfl))).trans hls) hlsb (by rw [hce]; exact hpl) hr hk1 hk2 hk3 (by rw [hce]; exact hlv) hlv4 hlv0 ((show (V15.2.1 147 20) = (U.2.1 147 20) from ((z15.i 147 20 rfl).trans (zza.i 147 20 rfl))).trans hps) hpb (by rw [hce]; exact hpa) (by rw [hce]; exact hab) hlab hda4 (by rw [hce]; exact hlr) hlrb (hF.eq (show (V15.2.1 99 19) = (U.2.1 99 19) from ((z15.i 99 19 rfl).trans (zza.i 99 19 rfl))) (show (V15.2.2.1 113 3) = (U.2.2.1 113 3) from ((z15.a 113 3 rfl).trans (zza.a 113 3 rfl))) (fun c => by rw [hpe])) ((show V15.2.1 147 18 = Va.2.1 147 18 from (z15.i 147 18 rfl)).trans hq1) hrl (by rw [show V15.2.2.1 147 12 = Va.2.2.1 147 12 from (z15.a 147 12 rfl)]; exact hqN) (fun H1 z => ?_)
        obtain ⟨y1, y2, y3, y4, y5, y6, y7, lvx, y8, y9, y10, y11, y12, y13, y14⟩ := z
        rw [show V15.2.2.2.2.1 151 = U.2.2.2.2.1 151 from ((z15.l 151 rfl).trans (zza.l 151 rfl)), show V15.2.2.2.2.1 153 = U.2.2.2.2.1 153 from ((z15.l 153 rfl).trans (zza.l 153 rfl))] at y12
        rw [hlfe, show V15.2.2.2.2.1 153 = U.2.2.2.2.1 153 from ((z15.l 153 rfl).trans (zza.l 153 rfl))] at y13
        rw [hlfe] at y14
        have y9 : CLV (ud m H1) U p r lvx ab la dab lr := by unfold CLV at y9 ⊢; rw [hce] at y9; exact y9
        exact ⟨H1, rfl, y1, ht15.trans y2, (hqe.mono (G := F327) rfl).tr y3 rfl, Or.inr ⟨y4, y5, y6, y7, tl + n0, qN, hqs, (Or.inr (fun t ht z => emp52 hgwn ht (fun i hi => hx0 i (by omega)) ((hb52 t ht).mpr z))), lvx, y8, y9, (gkp_q hqe rfl rfl rfl).trans y10, y11, y12, y13, y14⟩⟩
    · -- 164: not (nI (hd + 1)) < (nI ls)
      have nh14 : ¬ (hd + 1) < ls := fun z => h14 (show nI (hd + 1) < nI ls from (nI_ltI (by omega) (by omega)).mpr z)
      refine mw_sub (L' := [(0, .inr (.inr (some 147)))]) (by simp) ?_
      have hqe : uq F327h U (upI Va 147 17 (nI (hd + 1))) := (show uq F327h U (upI Va 147 17 (nI (hd + 1))) from (((uq.refl F327h U).tr zza rfl).I rfl))
      have hce : (upI Va 147 17 (nI (hd + 1))).2.2.1 147 10 = U.2.2.1 147 10 := (zza.a 147 10 rfl)
      have hpe : (upI Va 147 17 (nI (hd + 1))).2.2.2.2.2 = U.2.2.2.2.2 := (zza.2.2.2.2.2 rfl)
      have hlfe : lgf (upI Va 147 17 (nI (hd + 1))) ga gi = lgf U ga gi := lsf_q hgl hqe rfl rfl rfl
      refine gr_circleT (d := d) (C := C) (T := T) (R := R) (wn := wn) (ls := ls) (r := r) (k := k) (lv := lv) (p := p) (ab := ab) (la := la) (dab := dab) (lr := lr) (tl := tl + n0) (qu := qN) (pl := pl) (rx := rx) (mb := mb) (me := me) (nf := nf) (FS := FS) (ga := ga) (gi := gi) u13 d13 (hG.keep hqe rfl (NK.of_eq hce)) (hgl.q hqe (fun _ => rfl) (fun _ => rfl) rfl) ((show ((upI Va 147 17 (nI (hd + 1))).2.2.2.1 147 8) = (U.2.2.2.1 147 8) from (zza.r 147 8 rfl)).trans hgo) ((show ((upI Va 147 17 (nI (hd + 1))).2.1 147 21) = (U.2.1 147 21) from (zza.i 147 21 rfl)).trans hls) hlsb (by rw [hce]; exact hpl) hr hk1 hk2 hk3 (by rw [hce]; exact hlv) hlv4 hlv0 ((show ((upI Va 147 17 (nI (hd + 1))).2.1 147 20) = (U.2.1 147 20) from (zza.i 147 20 rfl)).trans hps) hpb (by rw [hce]; exact hpa) (by rw [hce]; exact hab) hlab hda4 (by rw [hce]; exact hlr) hlrb (hF.eq (show ((upI Va 147 17 (nI (hd + 1))).2.1 99 19) = (U.2.1 99 19) from (zza.i 99 19 rfl)) (show ((upI Va 147 17 (nI (hd + 1))).2.2.1 113 3) = (U.2.2.1 113 3) from (zza.a 113 3 rfl)) (fun c => by rw [hpe])) ((show (upI Va 147 17 (nI (hd + 1))).2.1 147 18 = Va.2.1 147 18 from rfl).trans hq1) hrl (by rw [show (upI Va 147 17 (nI (hd + 1))).2.2.1 147 12 = Va.2.2.1 147 12 from rfl]; exact hqN) (fun H1 z => ?_)
      obtain ⟨y1, y2, y3, y4, y5, y6, y7, lvx, y8, y9, y10, y11, y12, y13, y14⟩ := z
      rw [show (upI Va 147 17 (nI (hd + 1))).2.2.2.2.1 151 = U.2.2.2.2.1 151 from (zza.l 151 rfl), show (upI Va 147 17 (nI (hd + 1))).2.2.2.2.1 153 = U.2.2.2.2.1 153 from (zza.l 153 rfl)] at y12
      rw [hlfe, show (upI Va 147 17 (nI (hd + 1))).2.2.2.2.1 153 = U.2.2.2.2.1 153 from (zza.l 153 rfl)] at y13
      rw [hlfe] at y14
      have y9 : CLV (ud m H1) U p r lvx ab la dab lr := by unfold CLV at y9 ⊢; rw [hce] at y9; exact y9
      exact ⟨H1, rfl, y1, ht13.trans y2, (hqe.mono (G := F327) rfl).tr y3 rfl, Or.inr ⟨y4, y5, y6, y7, tl + n0, qN, hqs, (Or.inl (by omega)), lvx, y8, y9, (gkp_q hqe rfl rfl rfl).trans y10, y11, y12, y13, y14⟩⟩
end Circle
