/-! THE PUBLIC METHODS in the ready state -/
section ReadyCalls
variable {H H0 H1 : mu_H} {U V KU Xt : Ud} {m d P fb NN us nf nw nb kN ns sp : Nat} {C : Nat → Nat} {Y : Ts} {f od bs lv lc wa wn wi cl ro z me sa sN si : Nat → Nat} {es nm tm : Nat → Int32} {wk p : Nat → Bool} {S FS : Nat → Nat → Bool} {bo oid : Nat → Nat → Nat} {Gr : Nat → Nat → Prop} {al : Nat → Prop} {L4 L8 : Nat → Int64} {F : Uf}
variable {n s r T k a : Nat} {B B' : Nat → Bool} {ls : Nat → Nat} {A : Nat → Prop} {x : Int32}
theorem ur.at0 (h : ur m C H H1) (hm : m = 2 ∨ m = 41) : (∀ j, mu_i H1 0 j = mu_i H 0 j) ∧ ∀ j, mu_r H1 0 j = mu_r H 0 j := by
  obtain ⟨kd, hkd⟩ : ∃ k, gi_k 0 = some k := ⟨_, rfl⟩
  have hS : uS m 0 = false := by rcases hm with e | e <;> (rw [e]; rfl)
  have z := h.1.2.2.1 0 kd hkd hS
  exact ⟨fun j => Sum.inl.inj (z.2.2 j 0), fun j => Sum.inr.inj (Sum.inr.inj (z.2.2 j 2))⟩
theorem RDX.lst (h : RDX V m od Y es P f fb (pd f 0 P) Gr NN us S z p nf nm tm bs lv lc oid nw wa wn wi wk nb bo cl al ro) (hr : fb + r < NN) : ∃ ls : Nat → Nat, (∀ i j, i < j → j < z (fb + r) → ls i < ls j) ∧ (∀ i, i < z (fb + r) → ls i < 16384) ∧ S (fb + r) = lmz ls (z (fb + r)) := h.1.1.2.2.2.2.2.2.1.2.2.2.2.2.2 _ hr
theorem cnb_add (h : ∀ t, B' t = true ↔ B t = true ∨ t = a) (ha : ¬ B a = true) : ∀ T, cnb B' T = cnb B T + (if a < T then 1 else 0)
  | 0 => by rw [if_neg (Nat.not_lt_zero _)]; rfl
  | T + 1 => by
    have ih := cnb_add h ha T
    show cnb B' T + (if B' T = true then 1 else 0) = cnb B T + (if B T = true then 1 else 0) + (if a < T + 1 then 1 else 0)
    rw [ih]
    by_cases e : T = a
    · subst e
      rw [if_pos ((h T).mpr (Or.inr rfl)), if_neg ha, if_neg (Nat.lt_irrefl T), if_pos (Nat.lt_succ_self T)]
    · have hb : (B' T = true) ↔ (B T = true) := (h T).trans ⟨fun y => y.elim (fun y => y) (fun y => absurd y e), Or.inl⟩
      have h2 : (if a < T + 1 then 1 else 0) = (if a < T then 1 else 0) := by
        by_cases c : a < T
        · rw [if_pos c, if_pos (by omega)]
        · rw [if_neg c, if_neg (by omega)]
      rw [h2]
      by_cases c : B T = true
      · rw [if_pos c, if_pos (hb.mpr c)]; omega
      · rw [if_neg c, if_neg (fun y => c (hb.mp y))]; omega
theorem lmz_cnb : ∀ n, (∀ i j, i < j → j < n → ls i < ls j) → (∀ i, i < n → ls i < T) → cnb (lmz ls n) T = n
  | 0, _, _ => by
    have : ∀ T, cnb (lmz ls 0) T = 0 := fun T => by
      induction T with
      | zero => rfl
      | succ T ih =>
        show cnb (lmz ls 0) T + (if lmz ls 0 T = true then 1 else 0) = 0
        rw [ih, if_neg (fun y => by obtain ⟨i, i1, -⟩ := (lmz_iff 0).mp y; omega)]
    exact this T
  | n + 1, h1, h2 => by
    have ih := lmz_cnb n (fun i j a b => h1 i j a (by omega)) (fun i hi => h2 i (by omega))
    rw [cnb_add (B := lmz ls n) (a := ls n) (fun t => ?_) (fun y => ?_) T, ih, if_pos (h2 n (Nat.lt_succ_self _))]
    · rw [lmz_iff, lmz_iff]
      constructor
      · rintro ⟨i, i1, i2⟩
        by_cases e : i = n
        · exact Or.inr (by rw [← i2, e])
        · exact Or.inl ⟨i, by omega, i2⟩
      · rintro (⟨i, i1, i2⟩ | y)
        · exact ⟨i, by omega, i2⟩
        · exact ⟨n, Nat.lt_succ_self _, y.symm⟩
    · obtain ⟨i, i1, i2⟩ := (lmz_iff n).mp y
      have := h1 i n i1 (Nat.lt_succ_self _)
      omega
theorem cnb_ctn : ∀ T, (∀ t, t < T → (B t = true ↔ A t)) → cnb B T = ctn A T
  | 0, _ => rfl
  | T + 1, h => by
    show cnb B T + (if B T = true then 1 else 0) = ctn A T + @ite Nat (A T) (Classical.propDecidable _) 1 0
    rw [cnb_ctn T (fun t ht => h t (by omega))]
    by_cases c : B T = true
    · rw [if_pos c, if_pos ((h T (Nat.lt_succ_self _)).mp c)]
    · rw [if_neg c, if_neg (fun y => c ((h T (Nat.lt_succ_self _)).mpr y))]
/-- how many STATES a STATE GOES to -/
theorem crd_deg (h : um m H) (hU : CRI (ud m H) m Y es P f od KU Xt ns sa sN si fb NN us S z p nf nm tm bs lv lc oid nw wa wn wi wk nb bo cl al ro Gr me kN FS L4 L8) (hs : s < pd f 0 P) : mu_TI (mu_D (d + 20)) 361 [.inr (.inr (some 158)), .inl (nI s)] H (fun x H1 => x = nI (ctn ((GOS Y KU Xt f P od) s) (pd f 0 P)) ∧ H1 = H) := by
  have hGb := hU.1.1.2.1
  have hR := hU.1.1.1
  have hr := hU.2.1.2.2.2 s hs
  have h6 := hGb.2.1
  have e : z (fb + ro s) = ctn ((GOS Y KU Xt f P od) s) (pd f 0 P) := by
    obtain ⟨ls, y1, -, y⟩ := RDX.lst hR (show fb + ro s < NN by omega)
    rw [← lmz_cnb (T := pd f 0 P) (z (fb + ro s)) y1 (fun i hi => hU.2.1.2.1 (ro s) (ls i) (by rw [y]; exact (lmz_iff _).mpr ⟨i, hi, rfl⟩)), ← y]
    exact cnb_ctn _ (fun t _ => (hU.2.1.2.2.1 s t hs).symm)
  rw [← e]
  exact pr_followers (d := d + 17) h rfl (show s < ((ud m H).2.2.1 129 6).1 by have := h6.1.1; omega) h6.1.2 (h6.2 s hs).1 (RDX.nums hR).2.1 (RDX.szr hR (show fb + ro s < NN by omega))
/-- a STATE is entered -/
theorem crd_enter (h : um m H) (hU : CRI (ud m H) m Y es P f od KU Xt ns sa sN si fb NN us S z p nf nm tm bs lv lc oid nw wa wn wi wk nb bo cl al ro Gr me kN FS L4 L8) (h4 : mu_r H 0 4 = some m) (hs : s < pd f 0 P) : mu_MT (mu_D (d + 21)) 382 [.inr (.inr (some 0)), .inl (nI s)] H (fun r => r = (.inl (some (.inl (nI (ctn ((GOS Y KU Xt f P od) s) (pd f 0 P))))), mu_si H 0 13 (nI s))) := by
  have hTb := hU.tw.2
  obtain ⟨u1, -, e1⟩ := um.s0 (k := 13) (v := nI s) h
  have hU1 : CRI (ud m (mu_si H 0 13 (nI s))) m Y es P f od KU Xt ns sa sN si fb NN us S z p nf nm tm bs lv lc oid nw wa wn wi wk nb bo cl al ro Gr me kN FS L4 L8 := by rw [e1]; exact hU
  refine pv_enterS (A1 := fun x K => x = nI (ctn ((GOS Y KU Xt f P od) s) (pd f 0 P)) ∧ K = mu_si H 0 13 (nI s)) h.1.1 h.2 h4 (nI s) (fun _ => u1.1.1) (fun _ => crd_deg (d := d) u1 hU1 hs) (fun x K y => by rw [y.2]; exact u1.1.1) (fun y => absurd y (nI_pos (by omega))) (fun x K y _ => by rw [y.1, y.2])
theorem crd_enterN (h : um m H) (h4 : mu_r H 0 4 = some m) : mu_MT (mu_D (d + 21)) 382 [.inr (.inr (some 0)), .inl (-1 : Int32)] H (fun r => r = (.inr 3, mu_ex H)) :=
  pv_enterS (A1 := fun _ _ => False) h.1.1 h.2 h4 (-1) (fun y => absurd (by decide) y) (fun y => absurd (by decide) y) (fun _ _ y => y.elim) (fun _ => rfl) (fun _ _ y => y.elim)
/-- ready and drive, where all is ready -/
theorem crd_rdy (h : um m H) (h12 : ¬ mu_i H 0 12 = 0) : mu_TV (mu_D (d + 21)) 383 [.inr (.inr (some 0))] H (fun K => K = H) := pv_readyR (d := d) h.1.1 h12 (fun _ => ⟨H, rfl, rfl⟩)
theorem crd_idle (h : um m H) (hU : CRI (ud m H) m Y es P f od KU Xt ns sa sN si fb NN us S z p nf nm tm bs lv lc oid nw wa wn wi wk nb bo cl al ro Gr me kN FS L4 L8) : mu_TV (mu_D (d + 21)) 376 [.inr (.inr (some 0))] H (fun K => (um m K ∧ ur m C H K) ∧ ud m K = ud m H) := (pv_drive0 (d := d) (C := C) h hU.1.1.2.2.2.2.1.2 hU.1.1.2.2.2.2.1.1 hU.1.2.1).imp (fun K y => ⟨⟨y.1, y.2.1⟩, y.2.2⟩)
theorem crd_size (h : um m H) (hns : ((ud m H).1 17).1 = ns) : mu_i H (m + 35) 2 = nI ns := by
  rw [um.size (j := 17) h rfl (by decide) (show m + 35 = ra m 17 from rfl), hns]
/-- check -/
theorem crd_check (h : um m H) (hU : CRI (ud m H) m Y es P f od KU Xt ns sa sN si fb NN us S z p nf nm tm bs lv lc oid nw wa wn wi wk nb bo cl al ro Gr me kN FS L4 L8) (h4 : mu_r H 0 4 = some m) (h3 : ¬ mu_i H 0 3 = 0) (h12 : ¬ mu_i H 0 12 = 0) (hC21 : 2 * (((Y 13).1 + 2) * 4) + 4 ≤ C 21) (hC21b : C 21 ≤ 8388608) (hns : ((ud m H).1 17).1 = ns) (hnb : ns < 2147483648) (hsp : sp < ns) (hy : (Y 17).2 sp 0 = nI (sa sp) ∧ (Y 17).2 sp 1 = nI (sa sp + sN sp) ∧ (Y 17).2 sp 2 = nI (si sp)) (hS : SPQ Y es (NN - fb) C (sa sp) (sN sp) (si sp) 0) (hC26b : C 26 ≤ 8388608) : mu_MT (mu_D (d + 22)) 60 [.inr (.inr (some 0)), .inl (nI sp)] H (fun r => ∃ x K, r = (.inl (some (.inl x)), K) ∧ (um m K ∧ ur m C H K) ∧ CRI (ud m K) m Y es P f od KU Xt ns sa sN si fb NN us S z p nf nm tm bs lv lc oid nw wa wn wi wk nb bo cl al ro Gr me kN FS L4 L8 ∧ KPW (ud m H) (ud m K) ∧ ((x = 1 ∧ ∀ s, (INS Y KU f P od) s → (SPD Y (GOS Y KU Xt f P od) (EVS Y KU f P od) (EGS (GOS Y KU Xt f P od) kN (fun f t => FS f t = true) (EVS Y KU f P od)) kN (fun f t => FS f t = true) KU f P od sa sN si) sp s) ∨ (x = 0 ∧ ∃ s, (INS Y KU f P od) s ∧ ¬ (SPD Y (GOS Y KU Xt f P od) (EVS Y KU f P od) (EGS (GOS Y KU Xt f P od) kN (fun f t => FS f t = true) (EVS Y KU f P od)) kN (fun f t => FS f t = true) KU f P od sa sN si) sp s))) := by
  have hTw := hU.tw.1
  refine pv_checkS (A1 := fun K => K = H) (A2 := fun K => (um m K ∧ ur m C H K) ∧ ud m K = ud m H) (A3 := fun K => (um m K ∧ ur m C H K) ∧ ((((ud m H).2.2.1 158 7).2 (sp % 64) = nI sp ∧ ud m K = ud m H) ∨ ud m K = upI (sekU (ud m H) (((ud m H).1 17).2 sp 0) (((ud m H).1 17).2 sp 1) (((ud m H).1 17).2 sp 2) 0) 158 15 (nI sp))) (A4 := fun K => (um m K ∧ ur m C H K) ∧ CRI (ud m K) m Y es P f od KU Xt ns sa sN si fb NN us S z p nf nm tm bs lv lc oid nw wa wn wi wk nb bo cl al ro Gr me kN FS L4 L8 ∧ ((ud m K).2.2.1 158 7).2 (sp % 64) = nI sp ∧ KPW (ud m H) (ud m K)) (A5 := fun x K => (um m K ∧ ur m C H K) ∧ CRI (ud m K) m Y es P f od KU Xt ns sa sN si fb NN us S z p nf nm tm bs lv lc oid nw wa wn wi wk nb bo cl al ro Gr me kN FS L4 L8 ∧ KPW (ud m H) (ud m K) ∧ ((x = 1 ∧ ∀ s, (INS Y KU f P od) s → (SPD Y (GOS Y KU Xt f P od) (EVS Y KU f P od) (EGS (GOS Y KU Xt f P od) kN (fun f t => FS f t = true) (EVS Y KU f P od)) kN (fun f t => FS f t = true) KU f P od sa sN si) sp s) ∨ (x = 0 ∧ ∃ s, (INS Y KU f P od) s ∧ ¬ (SPD Y (GOS Y KU Xt f P od) (EVS Y KU f P od) (EGS (GOS Y KU Xt f P od) kN (fun f t => FS f t = true) (EVS Y KU f P od)) kN (fun f t => FS f t = true) KU f P od sa sN si) sp s))) h.1.1 h.2 h4 (nI sp) (fun _ _ _ => crd_rdy h h12) (fun K y => by rw [y]; exact h.1.1) (fun K y _ => by rw [y]; exact crd_idle h hU) (fun K y => y.1.1.1.1) (fun K y _ => ?_) (fun K y => y.1.1.1.1) (fun K y _ => ?_) (fun K y => y.1.1.1.1) (fun K y _ => ?_) (fun x K y => y.1.1.1.1) (fun x K y _ => y.2.2.2.elim (fun y => Or.inr y.1) (fun y => Or.inl y.1)) (fun _ y => absurd y h3) (fun x K y _ => ⟨x, K, rfl, y⟩) (fun y => absurd y (nI_pos (by omega))) (fun _ _ y => absurd (show nI sp < mu_i H (m + 35) 2 by rw [crd_size h hns]; exact (nI_ltI (by omega) (by omega)).mpr hsp) y)
  · have e := y.2
    have hK : CRI (ud m K) m Y es P f od KU Xt ns sa sN si fb NN us S z p nf nm tm bs lv lc oid nw wa wn wi wk nb bo cl al ro Gr me kN FS L4 L8 := by rw [e]; exact hU
    refine (crd_ask (d := d) (C := C) y.1.1 hK hsp (Nat.le_of_lt hnb)).imp (fun K1 w => ?_)
    rw [e] at w
    exact ⟨⟨w.1.1, y.1.2.trans w.1.2⟩, w.2⟩
  · refine (crd_asked (d := d) (C := C) hU hsp (Nat.le_of_lt hnb) hy hS hC21 hC21b hC26b y.1.1 y.2).imp (fun K1 w => ?_)
    exact ⟨⟨w.1.1, y.1.2.trans w.1.2⟩, w.2⟩
  · obtain ⟨y1, y2, y3, y4⟩ := y
    obtain ⟨q, L, hL, hwL, hlk, hbk⟩ := y2.1.2.2.1.of (i := sp) (by omega) (Nat.le_of_lt hnb) y3
    have hGb := y2.1.1.2.1
    have b5 := y2.2.2.1.2
    refine (pr_holds (d := d + 20) (sp := sp) y1.1 rfl (by omega) hGb.1.1.1 hlk hwL (by omega)).imp (fun x K1 w => ?_)
    rcases w with ⟨w1, w2, w3⟩ | ⟨w1, w2, w3⟩
    · rw [← w3]
      refine ⟨y1, y2, y4, Or.inl ⟨w1, fun s hs => ?_⟩⟩
      have hs2 : s < 64 * ((pd f 0 P + 63) / 64) := by have := hs.1; omega
      have k1 : bts ((ud m K).2.2.2.2.1 125) s = true := (b5 s (by omega)).mpr hs
      have k2 := congrArg (fun y => btz y (s % 64)) (w2 (s / 64) (by omega))
      have k3 : btz ((ud m K).2.2.2.2.1 125 (s / 64)) (s % 64) = true := k1
      have k4 : (btz ((ud m K).2.2.2.2.1 125 (s / 64) &&& (lgf (ud m K) 163 (sp % 64) (s / 64) ^^^ (-1 : Int64))) (s % 64)) = btz 0 (s % 64) := k2
      rw [btz_and, btz_0, k3, Bool.true_and] at k4
      by_cases c : bts (lgf (ud m K) 163 (sp % 64)) s = true
      · exact ((hbk s hs2).mp c).2
      · exact absurd k4 (by rw [(btz_neg (Nat.mod_lt s (by decide))).mpr c]; decide)
    · rw [← w3]
      obtain ⟨i, i1, i2⟩ := w2
      refine ⟨y1, y2, y4, Or.inr ⟨w1, ?_⟩⟩
      have hq : ∃ q, q < 64 ∧ btz ((ud m K).2.2.2.2.1 125 i &&& (lgf (ud m K) 163 (sp % 64) i ^^^ (-1 : Int64))) q = true := Classical.byContradiction (fun hno => i2 (btz_ext (fun q hq => by
        rw [btz_0]
        cases c : btz ((ud m K).2.2.2.2.1 125 i &&& (lgf (ud m K) 163 (sp % 64) i ^^^ (-1 : Int64))) q with
        | false => rfl
        | true => exact absurd ⟨q, hq, c⟩ hno)))
      obtain ⟨q', hq1, hq2⟩ := hq
      rw [btz_and, Bool.and_eq_true, btz_neg hq1] at hq2
      have e1 : (64 * i + q') / 64 = i := by omega
      have e2 : (64 * i + q') % 64 = q' := by omega
      have k1 : bts ((ud m K).2.2.2.2.1 125) (64 * i + q') = true := by unfold bts; rw [e1, e2]; exact hq2.1
      have k2 := (b5 (64 * i + q') (by omega)).mp k1
      refine ⟨64 * i + q', k2, fun w => hq2.2 ?_⟩
      have k3 := (hbk (64 * i + q') (by omega)).mpr ⟨⟨k2.1, k2.2.2⟩, w⟩
      unfold bts at k3
      rw [e1, e2] at k3
      exact k3
end ReadyCalls
