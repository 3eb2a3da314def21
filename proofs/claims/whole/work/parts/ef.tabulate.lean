/-! RELATION: tabulate -/
/-- how many choices there are at most -/
def CHK (Y : Ts) (b : Bool) (a N wd : Nat) : Prop := (b = true → ∀ x, x < N → (oc Y (a + x) = 32 ∨ oc Y (a + x) = 33) → plen (oc Y (a + x)) (oa Y (a + x)) ≤ wd) ∧ (b = false → tpz Y a N ≤ wd)
/-- tables under way: n cells of outs from ou on name sets -/
def TBL (U V : Ud) (N us : Nat) (S : Nat → Nat → Bool) (z : Nat → Nat) (p : Nat → Bool) (sp ou n : Nat) (Q : Nat → Nat → Prop) : Prop := (∀ a c, ¬ a = 114 → V.2.2.2.2.2 a c = U.2.2.2.2.2 a c) ∧ (∀ j, j < ou → (V.2.2.1 129 4).2 j = (U.2.2.1 129 4).2 j) ∧ ∃ (N' us' : Nat) (S' : Nat → Nat → Bool) (z' : Nat → Nat) (p' : Nat → Bool) (oid : Nat → Nat), SOK V N' us' S' z' p' ∧ (N ≤ N' ∧ N' ≤ N + n) ∧ (∀ j, j < N → S' j = S j ∧ z' j = z j ∧ p' j = p j) ∧ (us ≤ us' ∧ us' + 256 * (us / 8192) ≤ us + 256 * (us' / 8192) + n * (sp + 1)) ∧ ∀ c, c < n → (V.2.2.1 129 4).2 (ou + c) = nI (oid c) ∧ oid c < N' ∧ p' (oid c) = true ∧ ∀ x, S' (oid c) x = true ↔ Q c x
section Chosen
variable {V : Ud} {m a0 N0 l lane k wd : Nat} {Y : Ts} {lv : Nat → Nat → Int32} {Lk : List Bool} {b : Bool}
theorem chv_ofK (hR : RSL V Y a0 N0 l lv) (hn : lane < l) (hC : Cc Y) (hr : rg Y k true a0 (a0 + N0)) (hwd : ∀ x, x < N0 → (oc Y (a0 + x) = 32 ∨ oc Y (a0 + x) = 33) → plen (oc Y (a0 + x)) (oa Y (a0 + x)) ≤ wd) : ∃ K cv, CHV m V lane K cv ∧ (K < 2147483648 ∧ K ≤ max 1 wd) ∧ ∀ v, (∃ i, i < K ∧ cv i = v) ↔ chq Y (lv lane) a0 N0 v := by
  obtain ⟨V0, O, A, W, it, hri, ⟨h5, h7⟩, ⟨hcO, hOA, hA⟩, h15, h15b⟩ := hR
  obtain ⟨cp1, cp2⟩ := cp_pos hC hr
  have h1p := rg_1 hr
  rw [Nat.add_sub_cancel_left] at h1p
  have hkd : kdz Y a0 N0 0 = true := by
    have z := kst_kd hr.2.2.1 0 (by rw [Nat.add_sub_cancel_left]; omega)
    rw [Nat.add_sub_cancel_left, h1p] at z
    exact (Option.some.inj z).symm
  have hv := hri.2.2.1 0 lane (by omega) hn
  have hsb := fsz_le (Y := Y) (a := a0) (n := N0) (snz Y a0 N0) (Nat.le_refl _)
  have keep : ∀ V', MCQ V V' → ri V0 V' Y O (sfz Y a0 N0) A W l a0 N0 lv it := fun V' q => ri_keep hri (q.1 17) (q.1 18) (q.1 14) (q.1 16) (q.2.1 8) (q.2.1 12) (q.2.1 13) (q.2.1 15)
  rcases chz_n (lv := lv lane) hC hr N0 (Nat.le_refl _) 0 (by omega) hkd with ⟨c, c1, c2⟩ | z
  · have hm := fsz_mono (Y := Y) (a := a0) (n := N0) c c1
    have hm2 := fsz_le (Y := Y) (a := a0) (n := N0) (c + 1) (by omega)
    refine ⟨fsz Y a0 N0 (c + 1) - fsz Y a0 N0 c, fun k => kvz Y (lv lane) a0 N0 (fsz Y a0 N0 c + k), fun d H V' hu hd hq => ?_, ⟨by omega, by have := fsz_gap N0 hwd c c1; omega⟩, fun v => ⟨fun ⟨i, i1, i2⟩ => Or.inr ⟨c, c1, c2, i, i1, i2⟩, fun q => ?_⟩⟩
    · have hri' := keep V' hq
      obtain ⟨r1, r2, r3, ⟨r4, r5, r6⟩, r7, r8⟩ := id hri'
      have e15 : (V'.2.2.1 100 15).1 = (V.2.2.1 100 15).1 := congrArg Prod.fst (hq.2.1 15)
      refine ⟨mc_choicesC (d := d) (c := c) (sc := snz Y a0 N0) (fs := fsz Y a0 N0) hu hd r1 ((hq.1 7).trans h7) ((hq.1 5).trans h5) hn cp1 (by omega) (by omega) ((r3 0 lane (by omega) hn).trans c2) c1 (by omega) (by omega) r5 hm (by omega), fun k hk => ?_⟩
      have r9 := r7 (fsz Y a0 N0 c + k) lane (by omega) hn
      refine (mc_choiceC (d := d) (k := k) (c := c) (sc := snz Y a0 N0) (fs := fsz Y a0 N0) hu hd r1 ((hq.1 7).trans h7) ((hq.1 5).trans h5) hn cp1 (by omega) (by omega) ((r3 0 lane (by omega) hn).trans c2) c1 (by omega) (by omega) r5 hm (by omega) hcO (by omega) (by omega)).imp (fun x H1 q => ⟨q.1.trans ?_, q.2⟩)
      rw [Nat.add_assoc]
      exact r9
    · rcases q with ⟨q1, -⟩ | ⟨c', q1, q2, k, q3, q4⟩
      · rw [c2] at q1
        exact absurd q1 (nI_neg1 (by omega))
      · have e0 : c = c' := (nI_eq (by omega) (by omega)).mp (c2.symm.trans q2)
        rw [← e0] at q3 q4
        exact ⟨k, q3, q4⟩
  · refine ⟨1, fun _ => 0, fun d H V' hu hd hq => ?_, ⟨by decide, by omega⟩, fun v => ⟨fun ⟨i, i1, i2⟩ => Or.inl ⟨z, i2.symm⟩, fun q => ?_⟩⟩
    · have hri' := keep V' hq
      obtain ⟨r1, r2, r3, -⟩ := id hri'
      exact ⟨mc_choicesN (d := d) hu hd r1 ((hq.1 7).trans h7) ((hq.1 5).trans h5) hn cp1 (by omega) (by omega) ((r3 0 lane (by omega) hn).trans z), fun k hk => mc_choiceN (d := d) (k := k) hu hd r1 ((hq.1 7).trans h7) ((hq.1 5).trans h5) hn cp1 (by omega) (by omega) ((r3 0 lane (by omega) hn).trans z)⟩
    · rcases q with ⟨-, q1⟩ | ⟨c', q1, q2, -⟩
      · exact ⟨0, by decide, q1.symm⟩
      · rw [z] at q2
        exact absurd q2.symm (nI_neg1 (by omega))
theorem chv_ofsK (hR : RSL V Y a0 N0 l lv) (hn : lane < l) (hr : rgs Y k Lk a0 (a0 + N0)) (hf : ¬ true ∈ Lk) (htp : tpz Y a0 N0 ≤ wd) : ∃ K cv, CHV m V lane K cv ∧ (K < 2147483648 ∧ K ≤ max 1 wd) ∧ ∀ v, (∃ i, i < K ∧ cv i = v) ↔ ∃ i, i < tpz Y a0 N0 ∧ svz Y (lv lane) a0 N0 i = v := by
  obtain ⟨V0, O, A, W, it, hri, ⟨h5, h7⟩, ⟨hcO, hOA, hA⟩, h15, h15b⟩ := hR
  have h0 := rgs_f hr hf
  have h13 := hri.1.2.2.1
  have h13b := hri.1.2.2.2.1
  refine ⟨tpz Y a0 N0, fun i => svz Y (lv lane) a0 N0 i, fun d H V' hu hd hq => ?_, ⟨by omega, by omega⟩, fun v => Iff.rfl⟩
  have hri' : ri V0 V' Y O (sfz Y a0 N0) A W l a0 N0 lv it := ri_keep hri (hq.1 17) (hq.1 18) (hq.1 14) (hq.1 16) (hq.2.1 8) (hq.2.1 12) (hq.2.1 13) (hq.2.1 15)
  refine ⟨mc_choices0 (d := d) hu hd hri'.1 ((hq.1 7).trans h7) ((hq.1 5).trans h5) hn h0, fun i hi => (mc_choice0 (d := d) (k := i) hu hd hri'.1 ((hq.1 7).trans h7) ((hq.1 5).trans h5) hn h0 hi).imp (fun x H1 q => ⟨q.1.trans (hri'.2.2.1 i lane hi hn), q.2⟩)⟩
theorem chv_anyK (hR : RSL V Y a0 N0 l lv) (hn : lane < l) (hC : Cc Y) (hr : rgs Y k Lk a0 (a0 + N0)) (hb : (b = true → Lk = [true]) ∧ (b = false → ¬ true ∈ Lk)) (hk : CHK Y b a0 N0 wd) : ∃ K cv, CHV m V lane K cv ∧ (K < 2147483648 ∧ K ≤ max 1 wd) ∧ ∀ v, (∃ i, i < K ∧ cv i = v) ↔ CHW Y b (lv lane) a0 N0 v := by
  cases b with
  | true =>
    rw [hb.1 rfl] at hr
    obtain ⟨K, cv, y1, y2, y3⟩ := chv_ofK (m := m) hR hn hC (show rg Y k true a0 (a0 + N0) from hr) (hk.1 rfl)
    exact ⟨K, cv, y1, y2, fun v => (y3 v).trans ⟨fun q => Or.inl ⟨rfl, q⟩, fun q => q.elim (fun y => y.2) (fun y => by cases y.1)⟩⟩
  | false =>
    obtain ⟨K, cv, y1, y2, y3⟩ := chv_ofsK (m := m) hR hn hr (hb.2 rfl) (hk.2 rfl)
    exact ⟨K, cv, y1, y2, fun v => (y3 v).trans ⟨fun q => Or.inr ⟨rfl, q⟩, fun q => q.elim (fun y => by cases y.1) (fun y => y.2)⟩⟩
end Chosen
section Tabulate
variable {H : mu_H} {U V V1 V2 : Ud} {m d P a0 N0 i0 k ou us N nf bf bt mo kb T0 n nn N' us' id spn c : Nat} {C : Nat → Nat} {Y : Ts} {f od z z' ls oid : Nat → Nat} {es rs : Nat → Int32} {al mk : Int32} {S S' : Nat → Nat → Bool} {p p' : Nat → Bool} {Q Q' : Nat → Nat → Prop}
variable {Lk : List Bool} {b : Bool}
theorem TBL.init (hS : SOK V N us S z p) (hp : ∀ a c, ¬ a = 114 → V.2.2.2.2.2 a c = U.2.2.2.2.2 a c) (ho : ∀ j, j < ou → (V.2.2.1 129 4).2 j = (U.2.2.1 129 4).2 j) : TBL U V N us S z p spn ou 0 Q := ⟨hp, ho, N, us, S, z, p, fun _ => 0, hS, ⟨Nat.le_refl _, by omega⟩, fun _ _ => ⟨rfl, rfl, rfl⟩, ⟨Nat.le_refl _, by omega⟩, fun c hc => absurd hc (Nat.not_lt_zero c)⟩
theorem TBL.eq (h : TBL U V N us S z p spn ou n Q) (e1 : V1.2.1 113 1 = V.2.1 113 1) (e2 : V1.2.1 113 2 = V.2.1 113 2) (e5 : V1.2.1 113 5 = V.2.1 113 5) (e3 : V1.2.2.1 113 3 = V.2.2.1 113 3) (e4 : V1.2.2.1 113 4 = V.2.2.1 113 4) (ea : V1.2.2.1 129 4 = V.2.2.1 129 4) (ep : V1.2.2.2.2.2 = V.2.2.2.2.2) : TBL U V1 N us S z p spn ou n Q := by
  obtain ⟨h1, h2, N', us', S', z', p', oid, h3, h4⟩ := h
  refine ⟨by rw [ep]; exact h1, by rw [ea]; exact h2, N', us', S', z', p', oid, h3.eq e1 e2 e5 e3 e4 (by rw [ep]), ?_⟩
  rw [ea]
  exact h4
theorem TBL.mono (h : TBL U V N us S z p spn ou n Q) (hq : ∀ c, c < n → ∀ x, Q c x ↔ Q' c x) : TBL U V N us S z p spn ou n Q' := by
  obtain ⟨h1, h2, N', us', S', z', p', oid, h3, h4, h5, h6, h7⟩ := h
  exact ⟨h1, h2, N', us', S', z', p', oid, h3, h4, h5, h6, fun c hc => ⟨(h7 c hc).1, (h7 c hc).2.1, (h7 c hc).2.2.1, fun x => ((h7 c hc).2.2.2 x).trans (hq c hc x)⟩⟩
theorem TBL.step (hTp : ∀ a c, ¬ a = 114 → V.2.2.2.2.2 a c = U.2.2.2.2.2 a c) (hTo : ∀ j, j < ou → (V.2.2.1 129 4).2 j = (U.2.2.1 129 4).2 j) (hNb : N ≤ N' ∧ N' ≤ N + n) (hNS : ∀ j, j < N → S' j = S j ∧ z' j = z j ∧ p' j = p j) (hUb : us ≤ us' ∧ us' + 256 * (us / 8192) ≤ us + 256 * (us' / 8192) + n * (spn + 1)) (hcl : ∀ c, c < n → (V.2.2.1 129 4).2 (ou + c) = nI (oid c) ∧ oid c < N' ∧ p' (oid c) = true ∧ ∀ x, S' (oid c) x = true ↔ Q c x) (ep : V1.2.2.2.2.2 = V.2.2.2.2.2) (ea : V1.2.2.1 129 4 = V.2.2.1 129 4) (hA : ADD V1 V2 N' us' S' z' p' ls nn id) (hln : ∀ ln, ln ≤ (nn + 3) / 4 → (1 ≤ nn → ln ≤ ls (nn - 1) / 64 + 1) → ln ≤ spn) (hub : us' + 256 < 1507328) (hq : ∀ x, lmz ls nn x = true ↔ Q n x) : TBL U (upA V2 129 4 (ou + n) (nI id)) N us S z p spn ou (n + 1) Q := by
  obtain ⟨hq1, ho1, N2, us2, S2, z2, p2, ln, hS2, hid, ⟨b1, b2⟩, hold, ⟨hSi, hzi⟩, ⟨u1, u2⟩, ⟨l1, l2⟩, hpi⟩ := hA
  have hsl := hln ln l1 l2
  have hat : ∀ j, ((upA V2 129 4 (ou + n) (nI id)).2.2.1 129 4).2 j = if j = ou + n then nI id else (V.2.2.1 129 4).2 j := fun j => by
    show (if j = ou + n then nI id else (V2.2.2.1 129 4).2 j) = _
    rw [hq1.a 129 4 rfl, ea]
  have hsm : (n + 1) * (spn + 1) = n * (spn + 1) + (spn + 1) := Nat.succ_mul n (spn + 1)
  refine ⟨fun a c h => (ho1 a c h).trans ((congrFun (congrFun ep a) c).trans (hTp a c h)), fun j hj => ?_, N2, us2, S2, z2, p2, fun c => if c = n then id else oid c, hS2.eq rfl rfl rfl rfl rfl rfl, ⟨by omega, by omega⟩, fun j hj => ?_, ⟨by omega, by omega⟩, fun c hc => ?_⟩
  · rw [hat, if_neg (by omega)]
    exact hTo j hj
  · obtain ⟨y1, y2, y3⟩ := hold j (by omega)
    obtain ⟨w1, w2, w3⟩ := hNS j hj
    exact ⟨y1.trans w1, y2.trans w2, y3.trans w3⟩
  · rw [hat]
    show (if ou + c = ou + n then nI id else (V.2.2.1 129 4).2 (ou + c)) = nI (if c = n then id else oid c) ∧ (if c = n then id else oid c) < N2 ∧ p2 (if c = n then id else oid c) = true ∧ ∀ x, S2 (if c = n then id else oid c) x = true ↔ Q c x
    by_cases hcn : c = n
    · rw [if_pos (by omega), if_pos hcn]
      refine ⟨rfl, hid, hpi hub, fun x => ?_⟩
      rw [hSi, hcn]
      exact hq x
    · obtain ⟨w1, w2, w3, w4⟩ := hcl c (by omega)
      rw [if_neg (by omega), if_neg hcn]
      obtain ⟨y1, y2, y3⟩ := hold (oid c) w2
      refine ⟨w1, by omega, y3.trans w3, fun x => ?_⟩
      rw [y1]
      exact w4 x
def F307 : Uf := ⟨[22, 24], [(129, 5), (100, 18), (100, 21), (100, 19), (100, 20), (100, 14), (100, 16), (113, 1), (113, 2), (129, 11), (129, 19), (129, 20)], [(129, 4), (100, 8), (100, 12), (100, 9), (100, 10), (100, 11), (100, 13), (100, 15), (113, 3), (113, 4), (129, 10), (99, 18), (129, 7), (129, 8), (129, 9), (129, 14)], [(129, 4), (113, 3)], [117, 146], true⟩
theorem BZ_keep (h : BZ U bf bt) (h1 : V.2.1 129 19 = U.2.1 129 19) (h2 : V.2.1 129 20 = U.2.1 129 20) (h3 : V.2.2.2.2.1 146 = U.2.2.2.2.1 146) : BZ V bf bt := by
  unfold BZ at *
  rw [h1, h2, h3]
  exact h
theorem LDW.now (hl : LDW U Y P f od a0 N0 i0) (hmk : U.2.1 100 4 = mk) (hnx : ¬ NXW Y (U.1 15) P a0 N0 i0) : ∀ k, k < 28 → ¬ mb mk k = 0 → k < P := by
  obtain ⟨S0, K, dp, W, mk', M, rk, l1, l2, l3, l4⟩ := hl
  have emk : mk' = mk := l2.1.2.2.2.symm.trans hmk
  subst emk
  intro k hk hb
  obtain ⟨y1, y2, y3⟩ := l3.2.2 k (by omega) hb
  have : k < 14 := Nat.lt_of_not_le (fun y => hnx (y3 y))
  omega
theorem lmz_in {i : Nat} (h : i < nn) : lmz ls nn (ls i) = true := (lmz_iff nn).mpr ⟨i, h, rfl⟩
theorem pig_le : ∀ (K n : Nat) (g : Nat → Nat), (∀ i, i < n → g i < K) → (∀ i j, i < n → j < n → g i = g j → i = j) → n ≤ K
  | 0, n, g, h1, _ => Nat.le_of_not_lt (fun y => Nat.not_lt_zero _ (h1 0 y))
  | K + 1, n, g, h1, h2 => by
    by_cases hx : ∃ i, i < n ∧ g i = K
    · obtain ⟨i0, y1, y2⟩ := hx
      have ih := pig_le K (n - 1) (fun i => if i < i0 then g i else g (i + 1)) (fun i hi => by
        show (if i < i0 then g i else g (i + 1)) < K
        by_cases hc : i < i0
        · rw [if_pos hc]
          have w1 := h1 i (by omega)
          have w2 : ¬ g i = K := fun w => absurd (h2 i i0 (by omega) y1 (w.trans y2.symm)) (by omega)
          omega
        · rw [if_neg hc]
          have w1 := h1 (i + 1) (by omega)
          have w2 : ¬ g (i + 1) = K := fun w => absurd (h2 (i + 1) i0 (by omega) y1 (w.trans y2.symm)) (by omega)
          omega) (fun i j hi hj w => by
        have w : (if i < i0 then g i else g (i + 1)) = (if j < i0 then g j else g (j + 1)) := w
        by_cases c1 : i < i0
        · by_cases c2 : j < i0
          · rw [if_pos c1, if_pos c2] at w
            exact h2 i j (by omega) (by omega) w
          · rw [if_pos c1, if_neg c2] at w
            have := h2 i (j + 1) (by omega) (by omega) w
            omega
        · by_cases c2 : j < i0
          · rw [if_neg c1, if_pos c2] at w
            have := h2 (i + 1) j (by omega) (by omega) w
            omega
          · rw [if_neg c1, if_neg c2] at w
            have := h2 (i + 1) (j + 1) (by omega) (by omega) w
            omega)
      omega
    · have ih := pig_le K n g (fun i hi => by
        have w1 := h1 i hi
        have w2 : ¬ g i = K := fun w => hx ⟨i, hi, w⟩
        omega) h2
      omega
theorem list_le {K : Nat} {cv : Nat → Int32} {vl : Nat → Int32} (hr : ∀ i j, i < j → j < nn → ls i < ls j) (hc : ∀ i, i < nn → ∃ j, j < K ∧ cv j = vl (ls i)) (hd : ∀ a c, a < n → c < n → vl a = vl c → a = c) (hb : ∀ i, i < nn → ls i < n) : nn ≤ K := by
  have hg : ∃ g : Nat → Nat, ∀ i, i < nn → g i < K ∧ cv (g i) = vl (ls i) :=
    ⟨fun i => if h : i < nn then Classical.choose (hc i h) else 0, fun i hi => by
      show (if h : i < nn then Classical.choose (hc i h) else 0) < K ∧ cv (if h : i < nn then Classical.choose (hc i h) else 0) = vl (ls i)
      rw [dif_pos hi]
      exact Classical.choose_spec (hc i hi)⟩
  obtain ⟨g, hg⟩ := hg
  refine pig_le K nn g (fun i hi => (hg i hi).1) (fun i j hi hj w => ?_)
  have e1 := (hg i hi).2
  rw [w, (hg j hj).2] at e1
  have e2 := hd _ _ (hb j hj) (hb i hi) e1
  rcases Nat.lt_trichotomy i j with y | y | y
  · have := hr i j y hj
    omega
  · exact y
  · have := hr j i y hi
    omega
theorem top_place (hk : k < 14) : (31 : Int32) - ji_lz ((1 : Int32) <<< (nI k &&& 31)) = nI k := by
  have key : ∀ k : Fin 14, (31 : Int32) - ji_lz ((1 : Int32) <<< (nI k.1 &&& 31)) = nI k.1 := by decide +kernel
  exact key ⟨k, hk⟩
theorem tab24 (e : V.1 24 = U.1 24) {mk tm b4 : Int32} {nf l : Int32} : ax 24 (ap 24 V.1 mk tm b4 0) nf 4 l 24 = ax 24 (ap 24 U.1 mk tm b4 0) nf 4 l 24 := by
  show tset (wa 24) (tput (wa 24) (V.1 24) mk tm b4 0) nf 4 l = tset (wa 24) (tput (wa 24) (U.1 24) mk tm b4 0) nf 4 l
  rw [e]
theorem CLS_base {T : Nat} {ky ky' : Nat → Int32} (h : CLS V V1 T ky) (e : V.2.2.1 129 7 = U.2.2.1 129 7) (hk : ∀ t, t < T → ky t = ky' t) : CLS U V1 T ky' := by
  obtain ⟨cl, h1, h2⟩ := h
  refine ⟨cl, h1, fun t t' ht ht' => ?_⟩
  rw [h2 t t' ht ht', e, hk t ht, hk t' ht']
def F307a : Uf := ⟨[22], [(100, 14), (100, 16), (100, 21), (100, 18), (100, 19), (113, 1), (113, 2), (129, 11), (129, 19), (129, 20)], [(100, 8), (100, 9), (100, 10), (100, 11), (100, 12), (100, 13), (100, 15), (113, 3), (113, 4), (129, 10), (129, 4)], [(113, 3)], [117, 146], true⟩
def F307b : Uf := ⟨[], [(113, 1), (113, 2), (129, 11), (129, 19), (129, 20)], [(113, 3), (113, 4), (129, 10), (129, 4)], [(113, 3)], [117, 146], true⟩
/-- PathProver$Relation.tabulate(I)V -/
abbrev mu_m307 : ev_M := (9, none, [], ev_b307)
theorem mu_g307 : mu_good mu_m307 := mu_goodk ev_k307
theorem rl_tabulate (h : um m H) (e : ud m H = U) (hK : KNV m U Y P f od es) (hM : MCS U) (hl : LDW U Y P f od a0 N0 i0) (hi0 : i0 < (Y 11).1) (hr0 : rgs Y (im Y i0) Lk a0 (a0 + N0)) (hLk : 1 ≤ Lk.length) (hb : (b = true → Lk = [true]) ∧ (b = false → ¬ true ∈ Lk)) (hs0 : SRT Y es i0 al a0 rs N0) (hal : ¬ al = 2) (hmk : U.2.1 100 4 = mk) (hnx : ¬ NXW Y (U.1 15) P a0 N0 i0) (hmo : CHK Y b a0 N0 mo) (hmo1 : 1 ≤ mo) (hk : k < P) (hV : VDF U P f) (hz : BZ U bf bt) (hSO : SOK U N us S z p) (hou : U.2.1 129 5 = nI ou) (hol : ou ≤ (U.2.2.1 129 4).1) (hOL : OLN (U.2.2.1 129 4).1) (hfit : ou + pm mk f P ≤ 32768) (hN : N + pm mk f P ≤ 500000) (hX : us + pm mk f P * ((min ((mo + 3) / 4) ((f k + 63) / 64)) + 1) ≤ 1400000) (hLl : pd f 0 P + 4 ≤ (U.2.2.1 129 10).1) (hLlb : (U.2.2.1 129 10).1 ≤ 16777216) (hnf : (U.1 24).1 = nf) (hC1 : 2 * ((nf + 1) * 6) + 6 ≤ C 24) (hC2 : C 24 ≤ 8388608) (h7 : pd f 0 P ≤ (U.2.2.1 129 7).1) (h7b : (U.2.2.1 129 7).1 ≤ 16777216) (h8 : 2 * pd f 0 P ≤ (U.2.2.1 129 8).1) (h8b : (U.2.2.1 129 8).1 ≤ 16777216) (h9 : (U.2.2.1 129 9).1 = 2 ^ kb) (hkb : kb ≤ 15) (hTb : pd f 0 P < 2 ^ kb) : mu_TV (mu_D (d + 7)) 307 [.inr (.inr (some 129)), .inl (nI k)] H (fun H1 => um m H1 ∧ ur m C H H1 ∧ uq F307 U (ud m H1) ∧ KNV m (ud m H1) Y P f od es ∧ MCS (ud m H1) ∧ LDW (ud m H1) Y P f od a0 N0 i0 ∧ (∃ bf bt, BZ (ud m H1) bf bt) ∧ TBL U (ud m H1) N us S z p (min ((mo + 3) / 4) ((f k + 63) / 64)) ou (pm mk f P) (fun c x => x < f k ∧ CHW Y b (lvl Y (vlz U f mk 0 c) (vlz U f mk 14 c) (evz Y od (vlz U f mk 0 c)) i0) a0 N0 ((U.2.2.1 99 8).2 (sm f 0 k + x))) ∧ ((ud m H1).2.1 129 5 = nI (ou + pm mk f P) ∧ ou + pm mk f P ≤ ((ud m H1).2.2.1 129 4).1 ∧ OLN ((ud m H1).2.2.1 129 4).1) ∧ (ud m H1).1 24 = ax 24 (ap 24 U.1 mk ((1 : Int32) <<< (nI k &&& 31)) (nI ou) 0) (nI nf) 4 (nI k) 24 ∧ CLS U (ud m H1) (pd f 0 P) (fun t => ((ud m H1).2.2.1 129 4).2 (ou + pj mk f P P t))) := by
  obtain ⟨⟨s4, s10, s11, s12⟩, hk5, ⟨g8, g8b, g18, g18b⟩, ⟨gP, gpd, gsm⟩, hsp, hmo'⟩ := id hK.1
  have hP : P ≤ 14 := gP
  have hpm := pm_le (mk := mk) (f := f) (n := P) (fun k _ => hK.2.1 k)
  have hfT : f k ≤ pd f 0 P := fk_pd hk gP hK.2.1
  have hfk1 := hK.2.1 k
  obtain ⟨T0, hT0⟩ : ∃ T0, T0 = tqz mk f 28 := ⟨_, rfl⟩
  have hmv2 : ∀ k, k < 28 → ¬ mb mk k = 0 → k < P := LDW.now hl hmk hnx
  have hTw := tqz_28 hT0 hmv2 hP
  rw [wn_pm] at hTw
  refine mu_meth (M := mu_m307) rfl rfl ?_
  refine mw_ht (mu_fn_of (show [0, 1].Nodup by decide)) ?_
  refine mw_go mu_g307 (k := 2) (f1 := (4, [(0, .inr (.inr (some 129))), (1, .inl (nI k))], [.inr (.inr (mu_r H 129 0))], H)) (C := [mu_is H (some 129) 9]) rfl (show mu_is H (some 129) 9 from (h.1.1.is rfl)) ?_
  rw [(h.1.1.r (p := 129) (j := 0) (q := 99) rfl)]
  refine mw_go mu_g307 (k := 1) (f1 := (7, [(0, .inr (.inr (some 129))), (1, .inl (nI k))], [.inr (.inr (mu_r H 99 1))], H)) (C := [mu_is H (some 99) 13]) rfl (show mu_is H (some 99) 13 from (h.1.1.is rfl)) ?_
  rw [(h.1.1.r (p := 99) (j := 1) (q := 100) rfl)]
  refine mw_go mu_g307 (k := 1) (f1 := (10, [(0, .inr (.inr (some 129))), (1, .inl (nI k))], [.inl (mu_i H 100 4)], H)) (C := [mu_is H (some 100) 5]) rfl (show mu_is H (some 100) 5 from (h.1.1.is rfl)) ?_
  rw [(show mu_i H 100 4 = mk from (ud_i (U := U) (m := m) (P := 100) (j := 4) e rfl).trans hmk)]
  refine mw_go mu_g307 (k := 4) (f1 := (16, [(2, .inl mk), (0, .inr (.inr (some 129))), (1, .inl (nI k))], [.inr (.inr (mu_r H 129 0)), .inr (.inr (some 129))], H)) (C := [mu_is H (some 129) 9]) rfl (show mu_is H (some 129) 9 from (h.1.1.is rfl)) ?_
  rw [(h.1.1.r (p := 129) (j := 0) (q := 99) rfl)]
  refine mw_go mu_g307 (k := 1) (f1 := (17, [(2, .inl mk), (0, .inr (.inr (some 129))), (1, .inl (nI k))], [.inl mk, .inr (.inr (some 99)), .inr (.inr (some 129))], H)) (C := []) rfl trivial ?_
  refine mw_cIe (fun _ => rfl) (show mu_is H (some 99) 13 from (h.1.1.is rfl)) (sp_over (d := (d + 5)) (mk := mk) h e hK.1) ?_
  refine mw_cI (fun _ => rfl) (show mu_is H (some 129) 9 from (h.1.1.is rfl)) (rl_reserve (d := (d + 3)) (C := C) (mn := pm mk f P) h e hou hOL hol hfit) (fun x2 Q2 q2 => ?_)
  obtain ⟨rfl, u2, r2, z2, o5, oln, oOL, oold⟩ := q2
  have ht2 : ur m C H Q2 := (ur.refl m C H).trans r2
  obtain ⟨V2, d2⟩ : ∃ V, ud m Q2 = V := ⟨_, rfl⟩
  rw [d2] at z2 o5 oln oOL oold
  have qf2 : uq F307 U V2 := (uq.refl F307 U).tr z2 rfl
  have hOb : (V2.2.2.1 129 4).1 ≤ 32768 := by rcases oOL with y | y | y <;> omega
  refine mw_go mu_g307 (k := 3) (f1 := (28, [(3, .inl (nI ou)), (2, .inl mk), (0, .inr (.inr (some 129))), (1, .inl (nI k))], [.inr (.inr (mu_r Q2 129 0))], Q2)) (C := [mu_is Q2 (some 129) 9]) rfl (show mu_is Q2 (some 129) 9 from (u2.1.1.is rfl)) ?_
  rw [(u2.1.1.r (p := 129) (j := 0) (q := 99) rfl)]
  refine mw_go mu_g307 (k := 1) (f1 := (31, [(3, .inl (nI ou)), (2, .inl mk), (0, .inr (.inr (some 129))), (1, .inl (nI k))], [.inr (.inr (mu_r Q2 99 1))], Q2)) (C := [mu_is Q2 (some 99) 13]) rfl (show mu_is Q2 (some 99) 13 from (u2.1.1.is rfl)) ?_
  rw [(u2.1.1.r (p := 99) (j := 1) (q := 100) rfl)]
  refine mw_go mu_g307 (k := 1) (f1 := (32, [(3, .inl (nI ou)), (2, .inl mk), (0, .inr (.inr (some 129))), (1, .inl (nI k))], [.inl mk, .inr (.inr (some 100))], Q2)) (C := []) rfl trivial ?_
  have hK1 : KNV m V2 Y P f od es := hK.q z2 rfl
  have hM1 := (show MCS V2 from ⟨by rw [(show (V2.1 22) = (U.1 22) from (z2.t 22 rfl))]; exact hM.1, by rw [(show (V2.2.2.1 100 3).1 = (U.2.2.1 100 3).1 from (z2.n 100 3 rfl))]; exact hM.2.1, by rw [(show (V2.2.2.1 100 8).1 = (U.2.2.1 100 8).1 from (z2.n 100 8 rfl))]; exact hM.2.2.1, by rw [(show (V2.2.2.1 100 12).1 = (U.2.2.1 100 12).1 from (z2.n 100 12 rfl))]; exact hM.2.2.2.1, by rw [(show (V2.2.2.1 100 13).1 = (U.2.2.1 100 13).1 from (z2.n 100 13 rfl))]; exact hM.2.2.2.2.1, by rw [(show (V2.2.2.1 100 15).1 = (U.2.2.1 100 15).1 from (z2.n 100 15 rfl))]; exact hM.2.2.2.2.2⟩)
  have hl1 : LDW V2 Y P f od a0 N0 i0 := hl.keep (show (V2.1 21) = (U.1 21) from (z2.t 21 rfl)) (show (V2.1 22) = (U.1 22) from (z2.t 22 rfl)) (show (V2.1 15) = (U.1 15) from (z2.t 15 rfl)) (show (V2.2.2.1 100 3) = (U.2.2.1 100 3) from (z2.a 100 3 rfl)) (show (V2.2.1 100 5) = (U.2.1 100 5) from (z2.i 100 5 rfl)) (show (V2.2.1 100 7) = (U.2.1 100 7) from (z2.i 100 7 rfl)) (show (V2.2.1 100 17) = (U.2.1 100 17) from (z2.i 100 17 rfl)) (show (V2.2.1 100 4) = (U.2.1 100 4) from (z2.i 100 4 rfl)) (show (V2.2.2.1 100 8) = (U.2.2.1 100 8) from (z2.a 100 8 rfl)) (show (V2.2.2.1 100 12).1 = (U.2.2.1 100 12).1 from (z2.n 100 12 rfl)) (show (V2.2.2.1 100 13).1 = (U.2.2.1 100 13).1 from (z2.n 100 13 rfl)) (show (V2.2.2.1 100 15).1 = (U.2.2.1 100 15).1 from (z2.n 100 15 rfl)) (show (V2.2.2.1 99 8) = (U.2.2.1 99 8) from (z2.a 99 8 rfl))
  refine mw_cI (fun _ => rfl) (show mu_is Q2 (some 100) 5 from (u2.1.1.is rfl)) (mc_rewindT (d := (d + 1)) (C := C) (T0 := T0) u2 d2 hK1 hM1 hl1 (show (V2.2.1 100 4) = mk from ((z2.i 100 4 rfl).trans hmk)) hT0 (by omega)) (fun x3 Q3 q3 => ?_)
  obtain ⟨W, ⟨w1, w2⟩, rfl, u3, r3, z3, hKr, hMr, hTR0⟩ := q3
  have ht3 : ur m C H Q3 := ht2.trans r3
  obtain ⟨V3, d3⟩ : ∃ V, ud m Q3 = V := ⟨_, rfl⟩
  rw [d3] at z3 hKr hMr hTR0
  have qf3 : uq F307 U V3 := qf2.tr z3 rfl
  obtain ⟨TN, hTN⟩ : ∃ TN, TN = (T0 + W - 1) / W := ⟨_, rfl⟩
  rw [← hTN]
  have hTNb : TN ≤ 17407 := by rw [hTN]; exact Nat.le_trans (Nat.div_le_self _ _) (by omega)
  refine mw_go mu_g307 (k := 7) (f1 := (46, [(7, .inl (0 : Int32)), (6, .inl (nI ou)), (5, .inl (0 : Int32)), (4, .inl (nI TN)), (3, .inl (nI ou)), (2, .inl mk), (0, .inr (.inr (some 129))), (1, .inl (nI k))], [], Q3)) (C := []) rfl trivial ?_
  show mu_W _ _ (46, [(7, .inl (nI 0)), (6, .inl (nI (ou + mwz W T0 0))), (5, .inl (0 : Int32)), (4, .inl (nI TN)), (3, .inl (nI ou)), (2, .inl mk), (0, .inr (.inr (some 129))), (1, .inl (nI k))], [], Q3) _
  refine mw_sub (L' := [(7, .inl (nI 0)), (5, .inl (0 : Int32)), (6, .inl (nI (ou + mwz W T0 0))), (0, .inr (.inr (some 129))), (1, .inl (nI k)), (2, .inl mk), (3, .inl (nI ou)), (4, .inl (nI TN))]) (by simp) ?_
  refine mw_down (α := Nat × Int32 × mu_H) (fun zs => (46, [(7, .inl (nI zs.1)), (5, .inl zs.2.1), (6, .inl (nI (ou + mwz W T0 zs.1))), (0, .inr (.inr (some 129))), (1, .inl (nI k)), (2, .inl mk), (3, .inl (nI ou)), (4, .inl (nI TN))], [], zs.2.2)) (fun zs => TN - zs.1) (fun zs => um m zs.2.2 ∧ ur m C H zs.2.2 ∧ (uq F307a V3 (ud m zs.2.2)) ∧ (zs.1 ≤ TN) ∧ (KNV m (ud m zs.2.2) Y P f od es) ∧ (MCS (ud m zs.2.2)) ∧ (TRN (ud m zs.2.2) Y P f od a0 N0 i0 mk T0 W zs.1) ∧ (∃ bf bt, BZ (ud m zs.2.2) bf bt) ∧ (TBL U (ud m zs.2.2) N us S z p (min ((mo + 3) / 4) ((f k + 63) / 64)) ou (min (zs.1 * W) T0) (fun c x => x < f k ∧ CHW Y b (lvl Y (vlz U f mk 0 c) (vlz U f mk 14 c) (evz Y od (vlz U f mk 0 c)) i0) a0 N0 ((U.2.2.1 99 8).2 (sm f 0 k + x))))) (fun zs hza iha => ?_) (0, (0 : Int32), Q3) ⟨u3, ht3, (show uq F307a V3 (ud m Q3) from by rw [d3]; exact uq.refl _ _), (show 0 ≤ TN from (by omega)), (show KNV m (ud m Q3) Y P f od es from by rw [d3]; exact hKr), (show MCS (ud m Q3) from by rw [d3]; exact hMr), (show TRN (ud m Q3) Y P f od a0 N0 i0 mk T0 W 0 from by rw [d3]; exact hTR0), (show ∃ bf bt, BZ (ud m Q3) bf bt from by rw [d3]; exact (⟨bf, bt, BZ_keep hz (show (V3.2.1 129 19) = (U.2.1 129 19) from ((z3.i 129 19 rfl).trans (z2.i 129 19 rfl))) (show (V3.2.1 129 20) = (U.2.1 129 20) from ((z3.i 129 20 rfl).trans (z2.i 129 20 rfl))) (show (V3.2.2.2.2.1 146) = (U.2.2.2.2.1 146) from ((z3.l 146 rfl).trans (z2.l 146 rfl)))⟩)), (show TBL U (ud m Q3) N us S z p (min ((mo + 3) / 4) ((f k + 63) / 64)) ou (min (0 * W) T0) (fun c x => x < f k ∧ CHW Y b (lvl Y (vlz U f mk 0 c) (vlz U f mk 14 c) (evz Y od (vlz U f mk 0 c)) i0) a0 N0 ((U.2.2.1 99 8).2 (sm f 0 k + x))) from by rw [d3]; exact (by rw [Nat.zero_mul, Nat.zero_min]; exact TBL.init (hSO.eq (show (V3.2.1 113 1) = (U.2.1 113 1) from ((z3.i 113 1 rfl).trans (z2.i 113 1 rfl))) (show (V3.2.1 113 2) = (U.2.1 113 2) from ((z3.i 113 2 rfl).trans (z2.i 113 2 rfl))) (show (V3.2.1 113 5) = (U.2.1 113 5) from ((z3.i 113 5 rfl).trans (z2.i 113 5 rfl))) (show (V3.2.2.1 113 3) = (U.2.2.1 113 3) from ((z3.a 113 3 rfl).trans (z2.a 113 3 rfl))) (show (V3.2.2.1 113 4) = (U.2.2.1 113 4) from ((z3.a 113 4 rfl).trans (z2.a 113 4 rfl))) (congrFun ((z3.2.2.2.2.2 rfl).trans (z2.2.2.2.2.2 rfl)) 114)) (fun a c _ => congrFun (congrFun ((z3.2.2.2.2.2 rfl).trans (z2.2.2.2.2.2 rfl)) a) c) (fun j hj => (congrFun (congrArg Prod.snd (show (V3.2.2.1 129 4) = (V2.2.2.1 129 4) from (z3.a 129 4 rfl))) j).trans (oold j hj))))⟩
  obtain ⟨i, mt, Hsa⟩ := zs
  obtain ⟨ua, hta, da, hi, hKa, hMa, hTRa, hBZa, hTBa⟩ := hza
  have ua : um m Hsa := ua
  have hta : ur m C H Hsa := hta
  have zza : uq F307a V3 (ud m Hsa) := da
  have hi : i ≤ TN := hi
  have hKa : KNV m (ud m Hsa) Y P f od es := hKa
  have hMa : MCS (ud m Hsa) := hMa
  have hTRa : TRN (ud m Hsa) Y P f od a0 N0 i0 mk T0 W i := hTRa
  have hBZa : ∃ bf bt, BZ (ud m Hsa) bf bt := hBZa
  have hTBa : TBL U (ud m Hsa) N us S z p (min ((mo + 3) / 4) ((f k + 63) / 64)) ou (min (i * W) T0) (fun c x => x < f k ∧ CHW Y b (lvl Y (vlz U f mk 0 c) (vlz U f mk 14 c) (evz Y od (vlz U f mk 0 c)) i0) a0 N0 ((U.2.2.1 99 8).2 (sm f 0 k + x))) := hTBa
  obtain ⟨Va, da⟩ : ∃ V, ud m Hsa = V := ⟨_, rfl⟩
  rw [da] at zza hKa hMa hTRa hBZa hTBa
  have qfa : uq F307 U Va := qf3.tr zza rfl
  show mu_W _ _ (46, [(7, .inl (nI i)), (5, .inl mt), (6, .inl (nI (ou + mwz W T0 i))), (0, .inr (.inr (some 129))), (1, .inl (nI k)), (2, .inl mk), (3, .inl (nI ou)), (4, .inl (nI TN))], [], Hsa) _
  refine mw_go mu_g307 (k := 2) (f1 := (50, [(7, .inl (nI i)), (5, .inl mt), (6, .inl (nI (ou + mwz W T0 i))), (0, .inr (.inr (some 129))), (1, .inl (nI k)), (2, .inl mk), (3, .inl (nI ou)), (4, .inl (nI TN))], [.inl (nI TN), .inl (nI i)], Hsa)) (C := []) rfl trivial ?_
  refine mw_if (P := (nI i) < (nI TN)) (a := 53) (b := 149) (fun _ => rfl) trivial (fun h4 => ?_) (fun h4 => ?_)
  · -- 53: (nI i) < (nI TN)
    have nh4 : i < TN := (nI_ltI (by omega) (by omega)).mp (show nI i < nI TN from h4)
    have hiW := turns_lt w1 (by rw [← hTN]; exact nh4)
    have hA15 : Va.1 15 = U.1 15 := ((zza.t 15 rfl).trans ((z3.t 15 rfl).trans (z2.t 15 rfl)))
    have hA98 : Va.2.2.1 99 8 = U.2.2.1 99 8 := ((zza.a 99 8 rfl).trans ((z3.a 99 8 rfl).trans (z2.a 99 8 rfl)))
    refine mw_go mu_g307 (k := 2) (f1 := (57, [(7, .inl (nI i)), (5, .inl mt), (6, .inl (nI (ou + mwz W T0 i))), (0, .inr (.inr (some 129))), (1, .inl (nI k)), (2, .inl mk), (3, .inl (nI ou)), (4, .inl (nI TN))], [.inr (.inr (mu_r Hsa 129 0))], Hsa)) (C := [mu_is Hsa (some 129) 9]) rfl (show mu_is Hsa (some 129) 9 from (ua.1.1.is rfl)) ?_
    rw [(ua.1.1.r (p := 129) (j := 0) (q := 99) rfl)]
    refine mw_go mu_g307 (k := 1) (f1 := (60, [(7, .inl (nI i)), (5, .inl mt), (6, .inl (nI (ou + mwz W T0 i))), (0, .inr (.inr (some 129))), (1, .inl (nI k)), (2, .inl mk), (3, .inl (nI ou)), (4, .inl (nI TN))], [.inr (.inr (mu_r Hsa 99 1))], Hsa)) (C := [mu_is Hsa (some 99) 13]) rfl (show mu_is Hsa (some 99) 13 from (ua.1.1.is rfl)) ?_
    rw [(ua.1.1.r (p := 99) (j := 1) (q := 100) rfl)]
    refine mw_cV (fun _ => rfl) (show mu_is Hsa (some 100) 5 from (ua.1.1.is rfl)) (mc_runT (d := d) (C := C) ua da hKa hMa hTRa hiW hi0 hr0 hLk hs0 hal) (fun Q5 q5 => ?_)
    obtain ⟨u5, r5, z5, hKu, hMu, hTD, hRS⟩ := q5
    have ht5 : ur m C H Q5 := hta.trans r5
    obtain ⟨V5, d5⟩ : ∃ V, ud m Q5 = V := ⟨_, rfl⟩
    rw [d5] at z5 hKu hMu hTD hRS
    have qf5 : uq F307 U V5 := qfa.tr z5 rfl
    obtain ⟨l, hl⟩ : ∃ l, l = min W (T0 - i * W) := ⟨_, rfl⟩
    have l18 : V5.2.1 100 18 = nI l := by rw [hl]; exact hTD.i18
    rw [← hl] at hRS
    have hlb : 1 ≤ l ∧ l ≤ 1024 ∧ i * W + l ≤ T0 := by omega
    refine mw_go mu_g307 (k := 2) (f1 := (66, [(8, .inl (0 : Int32)), (7, .inl (nI i)), (5, .inl mt), (6, .inl (nI (ou + mwz W T0 i))), (0, .inr (.inr (some 129))), (1, .inl (nI k)), (2, .inl mk), (3, .inl (nI ou)), (4, .inl (nI TN))], [], Q5)) (C := []) rfl trivial ?_
    rw [show nI (ou + mwz W T0 i) = nI (ou + (i * W + 0)) from congrArg nI (by rw [mwz_eq]; omega)]
    show mu_W _ _ (66, [(8, .inl (nI 0)), (7, .inl (nI i)), (5, .inl mt), (6, .inl (nI (ou + (i * W + 0)))), (0, .inr (.inr (some 129))), (1, .inl (nI k)), (2, .inl mk), (3, .inl (nI ou)), (4, .inl (nI TN))], [], Q5) _
    refine mw_sub (L' := [(8, .inl (nI 0)), (5, .inl mt), (6, .inl (nI (ou + (i * W + 0)))), (0, .inr (.inr (some 129))), (1, .inl (nI k)), (2, .inl mk), (3, .inl (nI ou)), (4, .inl (nI TN)), (7, .inl (nI i))]) (by simp) ?_
    refine mw_down (α := Nat × Int32 × mu_H) (fun zs => (66, [(8, .inl (nI zs.1)), (5, .inl zs.2.1), (6, .inl (nI (ou + (i * W + zs.1)))), (0, .inr (.inr (some 129))), (1, .inl (nI k)), (2, .inl mk), (3, .inl (nI ou)), (4, .inl (nI TN)), (7, .inl (nI i))], [], zs.2.2)) (fun zs => l - zs.1) (fun zs => um m zs.2.2 ∧ ur m C H zs.2.2 ∧ (uq F307b V5 (ud m zs.2.2)) ∧ (zs.1 ≤ l) ∧ (∃ bf bt, BZ (ud m zs.2.2) bf bt) ∧ (TBL U (ud m zs.2.2) N us S z p (min ((mo + 3) / 4) ((f k + 63) / 64)) ou (i * W + zs.1) (fun c x => x < f k ∧ CHW Y b (lvl Y (vlz U f mk 0 c) (vlz U f mk 14 c) (evz Y od (vlz U f mk 0 c)) i0) a0 N0 ((U.2.2.1 99 8).2 (sm f 0 k + x))))) (fun zs hzb ihb => ?_) (0, mt, Q5) ⟨u5, ht5, (show uq F307b V5 (ud m Q5) from by rw [d5]; exact uq.refl _ _), (show 0 ≤ l from (by omega)), (show ∃ bf bt, BZ (ud m Q5) bf bt from by rw [d5]; exact (by obtain ⟨b1, b2, b3⟩ := hBZa; exact ⟨b1, b2, BZ_keep b3 (show (V5.2.1 129 19) = (Va.2.1 129 19) from (z5.i 129 19 rfl)) (show (V5.2.1 129 20) = (Va.2.1 129 20) from (z5.i 129 20 rfl)) (show (V5.2.2.2.2.1 146) = (Va.2.2.2.2.1 146) from (z5.l 146 rfl))⟩)), (show TBL U (ud m Q5) N us S z p (min ((mo + 3) / 4) ((f k + 63) / 64)) ou (i * W + 0) (fun c x => x < f k ∧ CHW Y b (lvl Y (vlz U f mk 0 c) (vlz U f mk 14 c) (evz Y od (vlz U f mk 0 c)) i0) a0 N0 ((U.2.2.1 99 8).2 (sm f 0 k + x))) from by rw [d5]; exact (by rw [show i * W + 0 = min (i * W) T0 by omega]; exact hTBa.eq (show (V5.2.1 113 1) = (Va.2.1 113 1) from (z5.i 113 1 rfl)) (show (V5.2.1 113 2) = (Va.2.1 113 2) from (z5.i 113 2 rfl)) (show (V5.2.1 113 5) = (Va.2.1 113 5) from (z5.i 113 5 rfl)) (show (V5.2.2.1 113 3) = (Va.2.2.1 113 3) from (z5.a 113 3 rfl)) (show (V5.2.2.1 113 4) = (Va.2.2.1 113 4) from (z5.a 113 4 rfl)) (show (V5.2.2.1 129 4) = (Va.2.2.1 129 4) from (z5.a 129 4 rfl)) (z5.2.2.2.2.2 rfl)))⟩
    obtain ⟨lane, mu, Hsb⟩ := zs
    obtain ⟨ub, htb, db, hlane, hBZb, hTBb⟩ := hzb
    have ub : um m Hsb := ub
    have htb : ur m C H Hsb := htb
    have zzb : uq F307b V5 (ud m Hsb) := db
    have hlane : lane ≤ l := hlane
    have hBZb : ∃ bf bt, BZ (ud m Hsb) bf bt := hBZb
    have hTBb : TBL U (ud m Hsb) N us S z p (min ((mo + 3) / 4) ((f k + 63) / 64)) ou (i * W + lane) (fun c x => x < f k ∧ CHW Y b (lvl Y (vlz U f mk 0 c) (vlz U f mk 14 c) (evz Y od (vlz U f mk 0 c)) i0) a0 N0 ((U.2.2.1 99 8).2 (sm f 0 k + x))) := hTBb
    obtain ⟨Vb, db⟩ : ∃ V, ud m Hsb = V := ⟨_, rfl⟩
    rw [db] at zzb hBZb hTBb
    have qfb : uq F307 U Vb := qf5.tr zzb rfl
    show mu_W _ _ (66, [(8, .inl (nI lane)), (5, .inl mu), (6, .inl (nI (ou + (i * W + lane)))), (0, .inr (.inr (some 129))), (1, .inl (nI k)), (2, .inl mk), (3, .inl (nI ou)), (4, .inl (nI TN)), (7, .inl (nI i))], [], Hsb) _
    refine mw_go mu_g307 (k := 3) (f1 := (72, [(8, .inl (nI lane)), (5, .inl mu), (6, .inl (nI (ou + (i * W + lane)))), (0, .inr (.inr (some 129))), (1, .inl (nI k)), (2, .inl mk), (3, .inl (nI ou)), (4, .inl (nI TN)), (7, .inl (nI i))], [.inr (.inr (mu_r Hsb 129 0)), .inl (nI lane)], Hsb)) (C := [mu_is Hsb (some 129) 9]) rfl (show mu_is Hsb (some 129) 9 from (ub.1.1.is rfl)) ?_
    rw [(ub.1.1.r (p := 129) (j := 0) (q := 99) rfl)]
    refine mw_go mu_g307 (k := 1) (f1 := (75, [(8, .inl (nI lane)), (5, .inl mu), (6, .inl (nI (ou + (i * W + lane)))), (0, .inr (.inr (some 129))), (1, .inl (nI k)), (2, .inl mk), (3, .inl (nI ou)), (4, .inl (nI TN)), (7, .inl (nI i))], [.inr (.inr (mu_r Hsb 99 1)), .inl (nI lane)], Hsb)) (C := [mu_is Hsb (some 99) 13]) rfl (show mu_is Hsb (some 99) 13 from (ub.1.1.is rfl)) ?_
    rw [(ub.1.1.r (p := 99) (j := 1) (q := 100) rfl)]
    refine mw_go mu_g307 (k := 1) (f1 := (78, [(8, .inl (nI lane)), (5, .inl mu), (6, .inl (nI (ou + (i * W + lane)))), (0, .inr (.inr (some 129))), (1, .inl (nI k)), (2, .inl mk), (3, .inl (nI ou)), (4, .inl (nI TN)), (7, .inl (nI i))], [.inl (mu_i Hsb 100 18), .inl (nI lane)], Hsb)) (C := [mu_is Hsb (some 100) 5]) rfl (show mu_is Hsb (some 100) 5 from (ub.1.1.is rfl)) ?_
    rw [(show mu_i Hsb 100 18 = (nI l) from (ud_i (U := Vb) (m := m) (P := 100) (j := 18) db rfl).trans ((zzb.i 100 18 rfl).trans l18))]
    refine mw_if (P := (nI lane) < (nI l)) (a := 81) (b := 133) (fun _ => rfl) trivial (fun h6 => ?_) (fun h6 => ?_)
    · -- 81: (nI lane) < (nI l)
      have nh6 : lane < l := (nI_ltI (by omega) (by omega)).mp (show nI lane < nI l from h6)
      refine mw_go mu_g307 (k := 3) (f1 := (85, [(8, .inl (nI lane)), (5, .inl mu), (6, .inl (nI (ou + (i * W + lane)))), (0, .inr (.inr (some 129))), (1, .inl (nI k)), (2, .inl mk), (3, .inl (nI ou)), (4, .inl (nI TN)), (7, .inl (nI i))], [.inl (nI lane), .inl (nI k), .inr (.inr (some 129))], Hsb)) (C := []) rfl trivial ?_
      obtain ⟨K, cv, hch, ⟨hKb, hKm⟩, hcv⟩ := chv_anyK (m := m) (lane := lane) hRS (by omega) hK.2.2.2.1.1.2.2.2.2.2.1.2 hr0 hb hmo
      have hch2 : CHV m Vb lane K cv := hch.q ⟨fun j => zzb.i 100 j rfl, fun j => zzb.a 100 j rfl, fun j => zzb.r 100 j rfl⟩
      obtain ⟨bfb, btb, hBb⟩ := hBZb
      have hVb : VDF Vb P f := by unfold VDF; rw [(show (Vb.2.1 99 9) = (U.2.1 99 9) from ((zzb.i 99 9 rfl).trans ((z5.i 99 9 rfl).trans ((zza.i 99 9 rfl).trans ((z3.i 99 9 rfl).trans (z2.i 99 9 rfl)))))), (show (Vb.2.2.1 99 8) = (U.2.2.1 99 8) from ((zzb.a 99 8 rfl).trans ((z5.a 99 8 rfl).trans ((zza.a 99 8 rfl).trans ((z3.a 99 8 rfl).trans (z2.a 99 8 rfl))))))]; exact hV
      have hl10 : (Vb.2.2.1 129 10).1 = (U.2.2.1 129 10).1 := (show (Vb.2.2.1 129 10).1 = (U.2.2.1 129 10).1 from ((zzb.n 129 10 rfl).trans ((z5.n 129 10 rfl).trans ((zza.n 129 10 rfl).trans ((z3.n 129 10 rfl).trans (z2.n 129 10 rfl))))))
      refine mw_cV (fun _ => rfl) (show mu_is Hsb (some 129) 9 from (ub.1.1.is rfl)) (rl_listd (d := (d + 2)) (C := C) (K := K) (cv := cv) (k := k) ub db (spx_keep hK.1 (show (Vb.2.1 99 4) = (U.2.1 99 4) from ((zzb.i 99 4 rfl).trans ((z5.i 99 4 rfl).trans ((zza.i 99 4 rfl).trans ((z3.i 99 4 rfl).trans (z2.i 99 4 rfl)))))) (show (Vb.2.1 99 10) = (U.2.1 99 10) from ((zzb.i 99 10 rfl).trans ((z5.i 99 10 rfl).trans ((zza.i 99 10 rfl).trans ((z3.i 99 10 rfl).trans (z2.i 99 10 rfl)))))) (show (Vb.2.1 99 11) = (U.2.1 99 11) from ((zzb.i 99 11 rfl).trans ((z5.i 99 11 rfl).trans ((zza.i 99 11 rfl).trans ((z3.i 99 11 rfl).trans (z2.i 99 11 rfl)))))) (show (Vb.2.1 99 12) = (U.2.1 99 12) from ((zzb.i 99 12 rfl).trans ((z5.i 99 12 rfl).trans ((zza.i 99 12 rfl).trans ((z3.i 99 12 rfl).trans (z2.i 99 12 rfl)))))) (show (Vb.2.2.1 99 5) = (U.2.2.1 99 5) from ((zzb.a 99 5 rfl).trans ((z5.a 99 5 rfl).trans ((zza.a 99 5 rfl).trans ((z3.a 99 5 rfl).trans (z2.a 99 5 rfl)))))) (show (Vb.2.2.1 99 7) = (U.2.2.1 99 7) from ((zzb.a 99 7 rfl).trans ((z5.a 99 7 rfl).trans ((zza.a 99 7 rfl).trans ((z3.a 99 7 rfl).trans (z2.a 99 7 rfl)))))) (show (Vb.2.2.1 99 6) = (U.2.2.1 99 6) from ((zzb.a 99 6 rfl).trans ((z5.a 99 6 rfl).trans ((zza.a 99 6 rfl).trans ((z3.a 99 6 rfl).trans (z2.a 99 6 rfl)))))) (show (Vb.2.2.1 99 8).1 = (U.2.2.1 99 8).1 from ((zzb.n 99 8 rfl).trans ((z5.n 99 8 rfl).trans ((zza.n 99 8 rfl).trans ((z3.n 99 8 rfl).trans (z2.n 99 8 rfl)))))) (show (Vb.2.2.1 99 18).1 = (U.2.2.1 99 18).1 from ((zzb.n 99 18 rfl).trans ((z5.n 99 18 rfl).trans ((zza.n 99 18 rfl).trans ((z3.n 99 18 rfl).trans (z2.n 99 18 rfl)))))) (show (Vb.2.2.2.1 100 0) = (U.2.2.2.1 100 0) from ((zzb.r 100 0 rfl).trans ((z5.r 100 0 rfl).trans ((zza.r 100 0 rfl).trans ((z3.r 100 0 rfl).trans (z2.r 100 0 rfl)))))) (show (Vb.2.2.2.1 99 0) = (U.2.2.2.1 99 0) from ((zzb.r 99 0 rfl).trans ((z5.r 99 0 rfl).trans ((zza.r 99 0 rfl).trans ((z3.r 99 0 rfl).trans (z2.r 99 0 rfl))))))) hk hVb hBb hch2 hKb (by rw [hl10]; exact hLl) (by rw [hl10]; omega) hfT) (fun Q7 q7 => ?_)
      obtain ⟨u7, r7, z7, hBZn, nn, ls, l11, hls, hlr, hlm⟩ := q7
      have ht7 : ur m C H Q7 := htb.trans r7
      obtain ⟨V7, d7⟩ : ∃ V, ud m Q7 = V := ⟨_, rfl⟩
      rw [d7] at z7 hBZn l11 hls
      have qf7 : uq F307 U V7 := qfb.tr z7 rfl
      have hcvk : ∀ x, CHD Vb f k K cv x ↔ CHW Y b (lvl Y (vlz U f mk 0 (i * W + lane)) (vlz U f mk 14 (i * W + lane)) (evz Y od (vlz U f mk 0 (i * W + lane))) i0) a0 N0 ((U.2.2.1 99 8).2 (sm f 0 k + x)) := fun x => by unfold CHD; rw [show Vb.2.2.1 99 8 = U.2.2.1 99 8 from ((zzb.a 99 8 rfl).trans ((z5.a 99 8 rfl).trans ((zza.a 99 8 rfl).trans ((z3.a 99 8 rfl).trans (z2.a 99 8 rfl)))))]; have y := hcv ((U.2.2.1 99 8).2 (sm f 0 k + x)); rw [vlz_same (U := U) (V := Va) hA15 hA98] at y; rw [vlz_same (U := U) (V := Va) hA15 hA98] at y; exact y
      have hlf : ∀ x, lmz ls nn x = true ↔ x < f k ∧ CHW Y b (lvl Y (vlz U f mk 0 (i * W + lane)) (vlz U f mk 14 (i * W + lane)) (evz Y od (vlz U f mk 0 (i * W + lane))) i0) a0 N0 ((U.2.2.1 99 8).2 (sm f 0 k + x)) := fun x => (hlm x).trans (and_congr_right (fun _ => hcvk x))
      have hlt : ∀ i, i < nn → ls i < f k := fun i hi => ((hlm (ls i)).mp (lmz_in hi)).1
      have hnn : nn ≤ f k := by by_cases h0 : nn = 0; (rw [h0]; exact Nat.zero_le _); (have y1 := rise_le hlr (nn - 1) (by omega); have y2 := hlt (nn - 1) (by omega); omega)
      have hnK : nn ≤ K := list_le hlr (fun i hi => by obtain ⟨y1, j, y2, y3⟩ := (hlm (ls i)).mp (lmz_in hi); exact ⟨j, y2, y3⟩) (fun a c ha hc y => hVb.2 k hk a c ha hc y) hlt
      have hnS : nn ≤ max 1 mo := Nat.le_trans hnK hKm
      have hlb2 : ∀ i, i < nn → ls i < 16384 := fun i hi => by have y := hlt i hi; omega
      refine mw_go mu_g307 (k := 2) (f1 := (92, [(8, .inl (nI lane)), (5, .inl mu), (6, .inl (nI (ou + (i * W + lane)))), (0, .inr (.inr (some 129))), (1, .inl (nI k)), (2, .inl mk), (3, .inl (nI ou)), (4, .inl (nI TN)), (7, .inl (nI i))], [.inr (.inr (mu_r Q7 129 4))], Q7)) (C := [mu_is Q7 (some 129) 9]) rfl (show mu_is Q7 (some 129) 9 from (u7.1.1.is rfl)) ?_
      rw [(show mu_r Q7 129 4 = (V2.2.2.2.1 129 4) from (ud_q (U := V7) (m := m) (P := 129) (j := 4) d7 rfl).trans ((z7.r 129 4 rfl).trans ((zzb.r 129 4 rfl).trans ((z5.r 129 4 rfl).trans ((zza.r 129 4 rfl).trans (z3.r 129 4 rfl))))))]
      refine mw_go mu_g307 (k := 3) (f1 := (98, [(8, .inl (nI lane)), (5, .inl mu), (6, .inl (nI (ou + (i * W + lane)))), (0, .inr (.inr (some 129))), (1, .inl (nI k)), (2, .inl mk), (3, .inl (nI ou)), (4, .inl (nI TN)), (7, .inl (nI i))], [.inr (.inr (mu_r Q7 129 0)), .inl (nI (ou + (i * W + lane))), .inr (.inr (V2.2.2.2.1 129 4))], Q7)) (C := [mu_is Q7 (some 129) 9]) rfl (show mu_is Q7 (some 129) 9 from (u7.1.1.is rfl)) ?_
      rw [(u7.1.1.r (p := 129) (j := 0) (q := 99) rfl)]
      refine mw_go mu_g307 (k := 1) (f1 := (101, [(8, .inl (nI lane)), (5, .inl mu), (6, .inl (nI (ou + (i * W + lane)))), (0, .inr (.inr (some 129))), (1, .inl (nI k)), (2, .inl mk), (3, .inl (nI ou)), (4, .inl (nI TN)), (7, .inl (nI i))], [.inr (.inr (mu_r Q7 99 2)), .inl (nI (ou + (i * W + lane))), .inr (.inr (V2.2.2.2.1 129 4))], Q7)) (C := [mu_is Q7 (some 99) 13]) rfl (show mu_is Q7 (some 99) 13 from (u7.1.1.is rfl)) ?_
      rw [(u7.1.1.r (p := 99) (j := 2) (q := 113) rfl)]
      refine mw_go mu_g307 (k := 2) (f1 := (105, [(8, .inl (nI lane)), (5, .inl mu), (6, .inl (nI (ou + (i * W + lane)))), (0, .inr (.inr (some 129))), (1, .inl (nI k)), (2, .inl mk), (3, .inl (nI ou)), (4, .inl (nI TN)), (7, .inl (nI i))], [.inr (.inr (mu_r Q7 129 10)), .inr (.inr (some 113)), .inl (nI (ou + (i * W + lane))), .inr (.inr (V2.2.2.2.1 129 4))], Q7)) (C := [mu_is Q7 (some 129) 9]) rfl (show mu_is Q7 (some 129) 9 from (u7.1.1.is rfl)) ?_
      rw [(show mu_r Q7 129 10 = (U.2.2.2.1 129 10) from (ud_q (U := V7) (m := m) (P := 129) (j := 10) d7 rfl).trans ((z7.r 129 10 rfl).trans ((zzb.r 129 10 rfl).trans ((z5.r 129 10 rfl).trans ((zza.r 129 10 rfl).trans ((z3.r 129 10 rfl).trans (z2.r 129 10 rfl)))))))]
      refine mw_go mu_g307 (k := 2) (f1 := (109, [(8, .inl (nI lane)), (5, .inl mu), (6, .inl (nI (ou + (i * W + lane)))), (0, .inr (.inr (some 129))), (1, .inl (nI k)), (2, .inl mk), (3, .inl (nI ou)), (4, .inl (nI TN)), (7, .inl (nI i))], [.inl (mu_i Q7 129 11), .inr (.inr (U.2.2.2.1 129 10)), .inr (.inr (some 113)), .inl (nI (ou + (i * W + lane))), .inr (.inr (V2.2.2.2.1 129 4))], Q7)) (C := [mu_is Q7 (some 129) 9]) rfl (show mu_is Q7 (some 129) 9 from (u7.1.1.is rfl)) ?_
      rw [(show mu_i Q7 129 11 = (nI nn) from (ud_i (U := V7) (m := m) (P := 129) (j := 11) d7 rfl).trans l11)]
      obtain ⟨hTp, hTo, N1, us1, S1, z1, p1, oid, hSk, hNb, hNS, hUb, hcl⟩ := hTBb
      have hSv : SOK V7 N1 us1 S1 z1 p1 := hSk.eq (show (V7.2.1 113 1) = (Vb.2.1 113 1) from (z7.i 113 1 rfl)) (show (V7.2.1 113 2) = (Vb.2.1 113 2) from (z7.i 113 2 rfl)) (show (V7.2.1 113 5) = (Vb.2.1 113 5) from (z7.i 113 5 rfl)) (show (V7.2.2.1 113 3) = (Vb.2.2.1 113 3) from (z7.a 113 3 rfl)) (show (V7.2.2.1 113 4) = (Vb.2.2.1 113 4) from (z7.a 113 4 rfl)) (congrFun (z7.2.2.2.2.2 rfl) 114)
      have hn10 : (V7.2.2.1 129 10).1 = (U.2.2.1 129 10).1 := ((z7.n 129 10 rfl).trans ((zzb.n 129 10 rfl).trans ((z5.n 129 10 rfl).trans ((zza.n 129 10 rfl).trans ((z3.n 129 10 rfl).trans (z2.n 129 10 rfl))))))
      have hcost : (i * W + lane) * ((min ((mo + 3) / 4) ((f k + 63) / 64)) + 1) ≤ pm mk f P * ((min ((mo + 3) / 4) ((f k + 63) / 64)) + 1) := Nat.mul_le_mul_right _ (by omega)
      have hub1 := hSk.1.2.1
      refine mw_cI (fun _ => rfl) (show mu_is Q7 (some 113) 11 from (u7.1.1.is rfl)) (by have y := st_add_129 (d := (d + 2)) (C := C) (n := nn) (ls := ls) u7 d7 hls (by rw [hn10]; omega) (by rw [hn10]; omega) hlb2 hlr hSv (by omega); rw [show V7.2.2.2.1 129 10 = U.2.2.2.1 129 10 from ((z7.r 129 10 rfl).trans ((zzb.r 129 10 rfl).trans ((z5.r 129 10 rfl).trans ((zza.r 129 10 rfl).trans ((z3.r 129 10 rfl).trans (z2.r 129 10 rfl))))))] at y; exact y) (fun x8 Q8 q8 => ?_)
      obtain ⟨id, rfl, u8, r8, z8, hAo, hAr⟩ := q8
      have ht8 : ur m C H Q8 := ht7.trans r8
      obtain ⟨V8, d8⟩ : ∃ V, ud m Q8 = V := ⟨_, rfl⟩
      rw [d8] at z8 hAo hAr
      have qf8 : uq F307 U V8 := qf7.tr z8 rfl
      have hAD : ADD V7 V8 N1 us1 S1 z1 p1 ls nn id := ⟨z8, hAo, hAr⟩
      refine mw_go mu_g307 (k := 1) (f1 := (113, [(8, .inl (nI lane)), (5, .inl mu), (6, .inl (nI (ou + (i * W + lane)))), (0, .inr (.inr (some 129))), (1, .inl (nI k)), (2, .inl mk), (3, .inl (nI ou)), (4, .inl (nI TN)), (7, .inl (nI i))], [], (mu_si Q8 (mu_p (V2.2.2.2.1 129 4)) (nI (ou + (i * W + lane))).toNatClampNeg (nI id)))) (C := [mu_is Q8 (V2.2.2.2.1 129 4) 100, vp_in (nI (ou + (i * W + lane))) (mu_n Q8 (mu_p (V2.2.2.2.1 129 4)))]) rfl (show (mu_is Q8 (V2.2.2.2.1 129 4) 100) ∧ (vp_in (nI (ou + (i * W + lane))) (mu_n Q8 (mu_p (V2.2.2.2.1 129 4)))) from ⟨(u8.iA d8 rfl rfl (show V8.2.2.2.1 129 4 = (V2.2.2.2.1 129 4) from ((z8.r 129 4 rfl).trans ((z7.r 129 4 rfl).trans ((zzb.r 129 4 rfl).trans ((z5.r 129 4 rfl).trans ((zza.r 129 4 rfl).trans (z3.r 129 4 rfl)))))))), (u8.vA (i := ou + (i * W + lane)) d8 rfl rfl (show V8.2.2.2.1 129 4 = (V2.2.2.2.1 129 4) from ((z8.r 129 4 rfl).trans ((z7.r 129 4 rfl).trans ((zzb.r 129 4 rfl).trans ((z5.r 129 4 rfl).trans ((zza.r 129 4 rfl).trans (z3.r 129 4 rfl))))))) (show (V8.2.2.1 129 4).1 = (V2.2.2.1 129 4).1 from ((z8.n 129 4 rfl).trans ((z7.n 129 4 rfl).trans ((zzb.n 129 4 rfl).trans ((z5.n 129 4 rfl).trans ((zza.n 129 4 rfl).trans (z3.n 129 4 rfl))))))) (by omega) (by omega))⟩) ?_
      rw [(show (nI (ou + (i * W + lane))).toNatClampNeg = ou + (i * W + lane) from nI_clamp (by omega))]
      obtain ⟨u9, r9, d9⟩ : um m (mu_si Q8 (mu_p (V2.2.2.2.1 129 4)) (ou + (i * W + lane)) (nI id)) ∧ ur m C Q8 (mu_si Q8 (mu_p (V2.2.2.2.1 129 4)) (ou + (i * W + lane)) (nI id)) ∧ ud m (mu_si Q8 (mu_p (V2.2.2.2.1 129 4)) (ou + (i * W + lane)) (nI id)) = (upA V8 129 4 (ou + (i * W + lane)) (nI id)) := u8.sA (C := C) d8 rfl rfl (show V8.2.2.2.1 129 4 = (V2.2.2.2.1 129 4) from ((z8.r 129 4 rfl).trans ((z7.r 129 4 rfl).trans ((zzb.r 129 4 rfl).trans ((z5.r 129 4 rfl).trans ((zza.r 129 4 rfl).trans (z3.r 129 4 rfl)))))))
      generalize (mu_si Q8 (mu_p (V2.2.2.2.1 129 4)) (ou + (i * W + lane)) (nI id)) = Q9 at u9 r9 d9 ⊢
      have qf9 : uq F307 U (upA V8 129 4 (ou + (i * W + lane)) (nI id)) := qf8.A rfl
      have ht9 : ur m C H Q9 := ht8.trans r9
      refine mw_go mu_g307 (k := 3) (f1 := (119, [(8, .inl (nI lane)), (5, .inl mu), (6, .inl (nI (ou + (i * W + lane)))), (0, .inr (.inr (some 129))), (1, .inl (nI k)), (2, .inl mk), (3, .inl (nI ou)), (4, .inl (nI TN)), (7, .inl (nI i))], [.inl (mu_i Q9 129 11), .inl mu], Q9)) (C := [mu_is Q9 (some 129) 9]) rfl (show mu_is Q9 (some 129) 9 from (u9.1.1.is rfl)) ?_
      rw [(show mu_i Q9 129 11 = (nI nn) from (ud_i (U := (upA V8 129 4 (ou + (i * W + lane)) (nI id))) (m := m) (P := 129) (j := 11) d9 rfl).trans ((z8.i 129 11 rfl).trans l11))]
      refine mw_cIe (fun _ => rfl) trivial (mu_max_ok (d := (d + 5)) mu (nI nn)) ?_
      refine mw_go mu_g307 (k := 2) (f1 := (127, [(6, .inl ((nI (ou + (i * W + lane))) + 1)), (5, .inl (mu_max mu (nI nn))), (8, .inl (nI lane)), (0, .inr (.inr (some 129))), (1, .inl (nI k)), (2, .inl mk), (3, .inl (nI ou)), (4, .inl (nI TN)), (7, .inl (nI i))], [], Q9)) (C := []) rfl trivial ?_
      rw [(show ((nI (ou + (i * W + lane))) + 1) = (nI ((ou + (i * W + lane)) + 1)) from (nI_add (ou + (i * W + lane)) 1))]
      refine mw_go mu_g307 (k := 1) (f1 := (130, [(8, .inl ((nI lane) + 1)), (6, .inl (nI ((ou + (i * W + lane)) + 1))), (5, .inl (mu_max mu (nI nn))), (0, .inr (.inr (some 129))), (1, .inl (nI k)), (2, .inl mk), (3, .inl (nI ou)), (4, .inl (nI TN)), (7, .inl (nI i))], [], Q9)) (C := []) rfl trivial ?_
      rw [(show ((nI lane) + 1) = (nI (lane + 1)) from (nI_add lane 1))]
      refine mw_go mu_g307 (k := 1) (f1 := (66, [(8, .inl (nI (lane + 1))), (6, .inl (nI ((ou + (i * W + lane)) + 1))), (5, .inl (mu_max mu (nI nn))), (0, .inr (.inr (some 129))), (1, .inl (nI k)), (2, .inl mk), (3, .inl (nI ou)), (4, .inl (nI TN)), (7, .inl (nI i))], [], Q9)) (C := []) rfl trivial ?_
      show mu_W _ _ (66, [(8, .inl (nI (lane + 1))), (6, .inl (nI (ou + (i * W + (lane + 1))))), (5, .inl (mu_max mu (nI nn))), (0, .inr (.inr (some 129))), (1, .inl (nI k)), (2, .inl mk), (3, .inl (nI ou)), (4, .inl (nI TN)), (7, .inl (nI i))], [], Q9) _
      exact mw_sub (by simp) (ihb (lane + 1, (mu_max mu (nI nn)), Q9) ⟨u9, ht9, (show uq F307b V5 (ud m Q9) from by rw [d9]; exact (((zzb.tr z7 rfl).tr z8 rfl).A rfl)), (show (lane + 1) ≤ l from (by omega)), (show ∃ bf bt, BZ (ud m Q9) bf bt from by rw [d9]; exact (by obtain ⟨b1, b2, b3⟩ := hBZn; exact ⟨b1, b2, BZ_keep b3 (show ((upA V8 129 4 (ou + (i * W + lane)) (nI id)).2.1 129 19) = (V7.2.1 129 19) from (z8.i 129 19 rfl)) (show ((upA V8 129 4 (ou + (i * W + lane)) (nI id)).2.1 129 20) = (V7.2.1 129 20) from (z8.i 129 20 rfl)) (show ((upA V8 129 4 (ou + (i * W + lane)) (nI id)).2.2.2.2.1 146) = (V7.2.2.2.2.1 146) from (z8.l 146 rfl))⟩)), (show TBL U (ud m Q9) N us S z p (min ((mo + 3) / 4) ((f k + 63) / 64)) ou (i * W + (lane + 1)) (fun c x => x < f k ∧ CHW Y b (lvl Y (vlz U f mk 0 c) (vlz U f mk 14 c) (evz Y od (vlz U f mk 0 c)) i0) a0 N0 ((U.2.2.1 99 8).2 (sm f 0 k + x))) from by rw [d9]; exact (TBL.step (ls := ls) (nn := nn) (id := id) hTp hTo hNb hNS hUb hcl (z7.2.2.2.2.2 rfl) (show (V7.2.2.1 129 4) = (Vb.2.2.1 129 4) from (z7.a 129 4 rfl)) hAD (fun ln y1 y2 => by by_cases h0 : nn = 0; (omega); (have y3 := y2 (by omega); have y4 := hlt (nn - 1) (by omega); omega)) (by omega) hlf))⟩ (by show l - (lane + 1) < l - lane; omega))
    · -- 133: not (nI lane) < (nI l)
      have nh6 : ¬ lane < l := fun z => h6 (show nI lane < nI l from (nI_ltI (by omega) (by omega)).mpr z)
      have hsm : (i + 1) * W = i * W + W := Nat.succ_mul i W
      rw [show nI (ou + (i * W + lane)) = nI (ou + mwz W T0 (i + 1)) from congrArg nI (by rw [mwz_eq]; omega)]
      refine mw_go mu_g307 (k := 2) (f1 := (137, [(8, .inl (nI lane)), (5, .inl mu), (6, .inl (nI (ou + mwz W T0 (i + 1)))), (0, .inr (.inr (some 129))), (1, .inl (nI k)), (2, .inl mk), (3, .inl (nI ou)), (4, .inl (nI TN)), (7, .inl (nI i))], [.inr (.inr (mu_r Hsb 129 0))], Hsb)) (C := [mu_is Hsb (some 129) 9]) rfl (show mu_is Hsb (some 129) 9 from (ub.1.1.is rfl)) ?_
      rw [(ub.1.1.r (p := 129) (j := 0) (q := 99) rfl)]
      refine mw_go mu_g307 (k := 1) (f1 := (140, [(8, .inl (nI lane)), (5, .inl mu), (6, .inl (nI (ou + mwz W T0 (i + 1)))), (0, .inr (.inr (some 129))), (1, .inl (nI k)), (2, .inl mk), (3, .inl (nI ou)), (4, .inl (nI TN)), (7, .inl (nI i))], [.inr (.inr (mu_r Hsb 99 1))], Hsb)) (C := [mu_is Hsb (some 99) 13]) rfl (show mu_is Hsb (some 99) 13 from (ub.1.1.is rfl)) ?_
      rw [(ub.1.1.r (p := 99) (j := 1) (q := 100) rfl)]
      have hTDt : TRD Vb Y P f od a0 N0 i0 mk T0 W i := hTD.keep (show (Vb.1 21) = (V5.1 21) from (zzb.t 21 rfl)) (show (Vb.1 22) = (V5.1 22) from (zzb.t 22 rfl)) (show (Vb.1 15) = (V5.1 15) from (zzb.t 15 rfl)) (show (Vb.2.2.1 100 3) = (V5.2.2.1 100 3) from (zzb.a 100 3 rfl)) (show (Vb.2.1 100 5) = (V5.2.1 100 5) from (zzb.i 100 5 rfl)) (show (Vb.2.1 100 7) = (V5.2.1 100 7) from (zzb.i 100 7 rfl)) (show (Vb.2.1 100 17) = (V5.2.1 100 17) from (zzb.i 100 17 rfl)) (show (Vb.2.1 100 4) = (V5.2.1 100 4) from (zzb.i 100 4 rfl)) (show (Vb.2.1 100 18) = (V5.2.1 100 18) from (zzb.i 100 18 rfl)) (show (Vb.2.1 100 19) = (V5.2.1 100 19) from (zzb.i 100 19 rfl)) (show (Vb.2.1 100 20) = (V5.2.1 100 20) from (zzb.i 100 20 rfl)) (show (Vb.2.2.1 100 8) = (V5.2.2.1 100 8) from (zzb.a 100 8 rfl)) (show (Vb.2.2.1 100 12).1 = (V5.2.2.1 100 12).1 from (zzb.n 100 12 rfl)) (show (Vb.2.2.1 100 13).1 = (V5.2.2.1 100 13).1 from (zzb.n 100 13 rfl)) (show (Vb.2.2.1 100 15).1 = (V5.2.2.1 100 15).1 from (zzb.n 100 15 rfl)) (show (Vb.2.2.1 99 8) = (V5.2.2.1 99 8) from (zzb.a 99 8 rfl))
      have hMt := (show MCS Vb from ⟨by rw [(show (Vb.1 22) = (V5.1 22) from (zzb.t 22 rfl))]; exact hMu.1, by rw [(show (Vb.2.2.1 100 3).1 = (V5.2.2.1 100 3).1 from (zzb.n 100 3 rfl))]; exact hMu.2.1, by rw [(show (Vb.2.2.1 100 8).1 = (V5.2.2.1 100 8).1 from (zzb.n 100 8 rfl))]; exact hMu.2.2.1, by rw [(show (Vb.2.2.1 100 12).1 = (V5.2.2.1 100 12).1 from (zzb.n 100 12 rfl))]; exact hMu.2.2.2.1, by rw [(show (Vb.2.2.1 100 13).1 = (V5.2.2.1 100 13).1 from (zzb.n 100 13 rfl))]; exact hMu.2.2.2.2.1, by rw [(show (Vb.2.2.1 100 15).1 = (V5.2.2.1 100 15).1 from (zzb.n 100 15 rfl))]; exact hMu.2.2.2.2.2⟩)
      have hKt : KNV m Vb Y P f od es := hKu.q zzb rfl
      refine mw_cV (fun _ => rfl) (show mu_is Hsb (some 100) 5 from (ub.1.1.is rfl)) (mc_turnT (d := (d + 1)) (C := C) ub db hKt hMt hTDt hiW (by omega)) (fun Q11 q11 => ?_)
      obtain ⟨u11, r11, z11, hKn, hMn, hTRn⟩ := q11
      have ht11 : ur m C H Q11 := htb.trans r11
      obtain ⟨V11, d11⟩ : ∃ V, ud m Q11 = V := ⟨_, rfl⟩
      rw [d11] at z11 hKn hMn hTRn
      have qf11 : uq F307 U V11 := qfb.tr z11 rfl
      refine mw_go mu_g307 (k := 1) (f1 := (146, [(7, .inl ((nI i) + 1)), (8, .inl (nI lane)), (5, .inl mu), (6, .inl (nI (ou + mwz W T0 (i + 1)))), (0, .inr (.inr (some 129))), (1, .inl (nI k)), (2, .inl mk), (3, .inl (nI ou)), (4, .inl (nI TN))], [], Q11)) (C := []) rfl trivial ?_
      rw [(show ((nI i) + 1) = (nI (i + 1)) from (nI_add i 1))]
      refine mw_go mu_g307 (k := 1) (f1 := (46, [(7, .inl (nI (i + 1))), (8, .inl (nI lane)), (5, .inl mu), (6, .inl (nI (ou + mwz W T0 (i + 1)))), (0, .inr (.inr (some 129))), (1, .inl (nI k)), (2, .inl mk), (3, .inl (nI ou)), (4, .inl (nI TN))], [], Q11)) (C := []) rfl trivial ?_
      exact mw_sub (by simp) (iha (i + 1, mu, Q11) ⟨u11, ht11, (show uq F307a V3 (ud m Q11) from by rw [d11]; exact (((zza.tr z5 rfl).tr zzb rfl).tr z11 rfl)), (show (i + 1) ≤ TN from (by omega)), (show KNV m (ud m Q11) Y P f od es from by rw [d11]; exact hKn), (show MCS (ud m Q11) from by rw [d11]; exact hMn), (show TRN (ud m Q11) Y P f od a0 N0 i0 mk T0 W (i + 1) from by rw [d11]; exact hTRn), (show ∃ bf bt, BZ (ud m Q11) bf bt from by rw [d11]; exact (by obtain ⟨b1, b2, b3⟩ := hBZb; exact ⟨b1, b2, BZ_keep b3 (show (V11.2.1 129 19) = (Vb.2.1 129 19) from (z11.i 129 19 rfl)) (show (V11.2.1 129 20) = (Vb.2.1 129 20) from (z11.i 129 20 rfl)) (show (V11.2.2.2.2.1 146) = (Vb.2.2.2.2.1 146) from (z11.l 146 rfl))⟩)), (show TBL U (ud m Q11) N us S z p (min ((mo + 3) / 4) ((f k + 63) / 64)) ou (min ((i + 1) * W) T0) (fun c x => x < f k ∧ CHW Y b (lvl Y (vlz U f mk 0 c) (vlz U f mk 14 c) (evz Y od (vlz U f mk 0 c)) i0) a0 N0 ((U.2.2.1 99 8).2 (sm f 0 k + x))) from by rw [d11]; exact (by rw [show min ((i + 1) * W) T0 = i * W + lane by omega]; exact hTBb.eq (show (V11.2.1 113 1) = (Vb.2.1 113 1) from (z11.i 113 1 rfl)) (show (V11.2.1 113 2) = (Vb.2.1 113 2) from (z11.i 113 2 rfl)) (show (V11.2.1 113 5) = (Vb.2.1 113 5) from (z11.i 113 5 rfl)) (show (V11.2.2.1 113 3) = (Vb.2.2.1 113 3) from (z11.a 113 3 rfl)) (show (V11.2.2.1 113 4) = (Vb.2.2.1 113 4) from (z11.a 113 4 rfl)) (show (V11.2.2.1 129 4) = (Vb.2.2.1 129 4) from (z11.a 129 4 rfl)) (z11.2.2.2.2.2 rfl)))⟩ (by show TN - (i + 1) < TN - i; omega))
  · -- 149: not (nI i) < (nI TN)
    have nh4 : ¬ i < TN := fun z => h4 (show nI i < nI TN from (nI_ltI (by omega) (by omega)).mpr z)
    have hge : T0 ≤ i * W := turns_ge w1 (by rw [← hTN]; exact nh4)
    refine mw_go mu_g307 (k := 2) (f1 := (153, [(7, .inl (nI i)), (5, .inl mt), (6, .inl (nI (ou + mwz W T0 i))), (0, .inr (.inr (some 129))), (1, .inl (nI k)), (2, .inl mk), (3, .inl (nI ou)), (4, .inl (nI TN))], [.inr (.inr (mu_r Hsa 129 14))], Hsa)) (C := [mu_is Hsa (some 129) 9]) rfl (show mu_is Hsa (some 129) 9 from (ua.1.1.is rfl)) ?_
    rw [(ua.1.1.r (p := 129) (j := 14) (q := 142) rfl)]
    refine mw_go mu_g307 (k := 3) (f1 := (158, [(7, .inl (nI i)), (5, .inl mt), (6, .inl (nI (ou + mwz W T0 i))), (0, .inr (.inr (some 129))), (1, .inl (nI k)), (2, .inl mk), (3, .inl (nI ou)), (4, .inl (nI TN))], [.inr (.inr (mu_r Hsa 129 14)), .inl (nI k), .inr (.inr (some 142))], Hsa)) (C := [mu_is Hsa (some 129) 9]) rfl (show mu_is Hsa (some 129) 9 from (ua.1.1.is rfl)) ?_
    rw [(ua.1.1.r (p := 129) (j := 14) (q := 142) rfl)]
    refine mw_go mu_g307 (k := 2) (f1 := (160, [(7, .inl (nI i)), (5, .inl mt), (6, .inl (nI (ou + mwz W T0 i))), (0, .inr (.inr (some 129))), (1, .inl (nI k)), (2, .inl mk), (3, .inl (nI ou)), (4, .inl (nI TN))], [.inl (mu_i Hsa 142 (nI k).toNatClampNeg), .inl (nI k), .inr (.inr (some 142))], Hsa)) (C := [mu_isr Hsa (some 142) 100, vp_in (nI k) (mu_n Hsa 142)]) rfl (show (mu_isr Hsa (some 142) 100) ∧ (vp_in (nI k) (mu_n Hsa 142)) from ⟨((ua.iA da rfl rfl ((ud_q (m := m) (P := 129) (j := 14) da rfl).symm.trans (ua.1.1.r (p := 129) (j := 14) (q := 142) rfl)))).r, (by rw [show mu_n Hsa 142 = 14 from (ua.1.1.a (p := 142) (x := (100, 14)) rfl).2]; exact vp_in_nI (n := k) (by omega) (by decide))⟩) ?_
    obtain ⟨y12, hy12⟩ : ∃ y, y = (mu_i Hsa 142 (nI k).toNatClampNeg) := ⟨_, rfl⟩
    rw [← hy12]
    refine mw_go mu_g307 (k := 1) (f1 := (162, [(7, .inl (nI i)), (5, .inl mt), (6, .inl (nI (ou + mwz W T0 i))), (0, .inr (.inr (some 129))), (1, .inl (nI k)), (2, .inl mk), (3, .inl (nI ou)), (4, .inl (nI TN))], [.inl mt, .inl y12, .inl (nI k), .inr (.inr (some 142))], Hsa)) (C := []) rfl trivial ?_
    refine mw_cIe (fun _ => rfl) trivial (mu_min_ok (d := (d + 5)) y12 mt) ?_
    refine mw_go mu_g307 (k := 1) (f1 := (166, [(7, .inl (nI i)), (5, .inl mt), (6, .inl (nI (ou + mwz W T0 i))), (0, .inr (.inr (some 129))), (1, .inl (nI k)), (2, .inl mk), (3, .inl (nI ou)), (4, .inl (nI TN))], [], (mu_si Hsa 142 (nI k).toNatClampNeg (mu_min y12 mt)))) (C := [mu_is Hsa (some 142) 100, vp_in (nI k) (mu_n Hsa 142)]) rfl (show (mu_is Hsa (some 142) 100) ∧ (vp_in (nI k) (mu_n Hsa 142)) from ⟨(ua.iA da rfl rfl ((ud_q (m := m) (P := 129) (j := 14) da rfl).symm.trans (ua.1.1.r (p := 129) (j := 14) (q := 142) rfl))), (by rw [show mu_n Hsa 142 = 14 from (ua.1.1.a (p := 142) (x := (100, 14)) rfl).2]; exact vp_in_nI (n := k) (by omega) (by decide))⟩) ?_
    rw [(show (nI k).toNatClampNeg = k from nI_clamp (by omega))]
    obtain ⟨u14, r14, d14⟩ : um m (mu_si Hsa 142 k (mu_min y12 mt)) ∧ ur m C Hsa (mu_si Hsa 142 k (mu_min y12 mt)) ∧ ud m (mu_si Hsa 142 k (mu_min y12 mt)) = (upA Va 129 14 k (mu_min y12 mt)) := ua.sA (C := C) da rfl rfl ((ud_q (m := m) (P := 129) (j := 14) da rfl).symm.trans (ua.1.1.r (p := 129) (j := 14) (q := 142) rfl))
    generalize (mu_si Hsa 142 k (mu_min y12 mt)) = Q14 at u14 r14 d14 ⊢
    have qf14 : uq F307 U (upA Va 129 14 k (mu_min y12 mt)) := qfa.A rfl
    have ht14 : ur m C H Q14 := hta.trans r14
    refine mw_go mu_g307 (k := 6) (f1 := (172, [(7, .inl (nI i)), (5, .inl mt), (6, .inl (nI (ou + mwz W T0 i))), (0, .inr (.inr (some 129))), (1, .inl (nI k)), (2, .inl mk), (3, .inl (nI ou)), (4, .inl (nI TN))], [.inl (nI ou), .inl ((1 : Int32) <<< ((nI k) &&& 31)), .inl mk, .inr (.inr (some 129))], Q14)) (C := []) rfl trivial ?_
    have hln4 : ((upA Va 129 14 k (mu_min y12 mt)).2.2.1 129 4).1 = (V2.2.2.1 129 4).1 := ((zza.n 129 4 rfl).trans (z3.n 129 4 rfl))
    refine mw_cV (fun _ => rfl) (show mu_is Q14 (some 129) 9 from (u14.1.1.is rfl)) (rl_factor (d := (d + 2)) (C := C) (kb := kb) (bs := ou) (mk := mk) (tm := ((1 : Int32) <<< ((nI k) &&& 31))) (nf := nf) (l := k) u14 d14 (spx_keep hK.1 (show ((upA Va 129 14 k (mu_min y12 mt)).2.1 99 4) = (U.2.1 99 4) from ((zza.i 99 4 rfl).trans ((z3.i 99 4 rfl).trans (z2.i 99 4 rfl)))) (show ((upA Va 129 14 k (mu_min y12 mt)).2.1 99 10) = (U.2.1 99 10) from ((zza.i 99 10 rfl).trans ((z3.i 99 10 rfl).trans (z2.i 99 10 rfl)))) (show ((upA Va 129 14 k (mu_min y12 mt)).2.1 99 11) = (U.2.1 99 11) from ((zza.i 99 11 rfl).trans ((z3.i 99 11 rfl).trans (z2.i 99 11 rfl)))) (show ((upA Va 129 14 k (mu_min y12 mt)).2.1 99 12) = (U.2.1 99 12) from ((zza.i 99 12 rfl).trans ((z3.i 99 12 rfl).trans (z2.i 99 12 rfl)))) (show ((upA Va 129 14 k (mu_min y12 mt)).2.2.1 99 5) = (U.2.2.1 99 5) from ((zza.a 99 5 rfl).trans ((z3.a 99 5 rfl).trans (z2.a 99 5 rfl)))) (show ((upA Va 129 14 k (mu_min y12 mt)).2.2.1 99 7) = (U.2.2.1 99 7) from ((zza.a 99 7 rfl).trans ((z3.a 99 7 rfl).trans (z2.a 99 7 rfl)))) (show ((upA Va 129 14 k (mu_min y12 mt)).2.2.1 99 6) = (U.2.2.1 99 6) from ((zza.a 99 6 rfl).trans ((z3.a 99 6 rfl).trans (z2.a 99 6 rfl)))) (show ((upA Va 129 14 k (mu_min y12 mt)).2.2.1 99 8).1 = (U.2.2.1 99 8).1 from ((zza.n 99 8 rfl).trans ((z3.n 99 8 rfl).trans (z2.n 99 8 rfl)))) (show ((upA Va 129 14 k (mu_min y12 mt)).2.2.1 99 18).1 = (U.2.2.1 99 18).1 from ((zza.n 99 18 rfl).trans ((z3.n 99 18 rfl).trans (z2.n 99 18 rfl)))) (show ((upA Va 129 14 k (mu_min y12 mt)).2.2.2.1 100 0) = (U.2.2.2.1 100 0) from ((zza.r 100 0 rfl).trans ((z3.r 100 0 rfl).trans (z2.r 100 0 rfl)))) (show ((upA Va 129 14 k (mu_min y12 mt)).2.2.2.1 99 0) = (U.2.2.2.1 99 0) from ((zza.r 99 0 rfl).trans ((z3.r 99 0 rfl).trans (z2.r 99 0 rfl))))) (top_place (by omega)) (by rw [(show ((upA Va 129 14 k (mu_min y12 mt)).1 24) = (U.1 24) from ((zza.t 24 rfl).trans ((z3.t 24 rfl).trans (z2.t 24 rfl))))]; exact hnf) hC1 hC2 (by rw [(show ((upA Va 129 14 k (mu_min y12 mt)).2.2.1 129 7).1 = (U.2.2.1 129 7).1 from ((zza.n 129 7 rfl).trans ((z3.n 129 7 rfl).trans (z2.n 129 7 rfl))))]; exact h7) (by rw [(show ((upA Va 129 14 k (mu_min y12 mt)).2.2.1 129 7).1 = (U.2.2.1 129 7).1 from ((zza.n 129 7 rfl).trans ((z3.n 129 7 rfl).trans (z2.n 129 7 rfl))))]; exact h7b) (by rw [(show ((upA Va 129 14 k (mu_min y12 mt)).2.2.1 129 8).1 = (U.2.2.1 129 8).1 from ((zza.n 129 8 rfl).trans ((z3.n 129 8 rfl).trans (z2.n 129 8 rfl))))]; exact h8) (by rw [(show ((upA Va 129 14 k (mu_min y12 mt)).2.2.1 129 8).1 = (U.2.2.1 129 8).1 from ((zza.n 129 8 rfl).trans ((z3.n 129 8 rfl).trans (z2.n 129 8 rfl))))]; exact h8b) (by rw [(show ((upA Va 129 14 k (mu_min y12 mt)).2.2.1 129 9).1 = (U.2.2.1 129 9).1 from ((zza.n 129 9 rfl).trans ((z3.n 129 9 rfl).trans (z2.n 129 9 rfl))))]; exact h9) hkb hTb (by rw [hln4]; exact oln) (by rw [hln4]; rcases oOL with y | y | y <;> omega)) (fun Q15 q15 => ?_)
    obtain ⟨u15, r15, z15, hf24, hCL⟩ := q15
    have ht15 : ur m C H Q15 := ht14.trans r15
    obtain ⟨V15, d15⟩ : ∃ V, ud m Q15 = V := ⟨_, rfl⟩
    rw [d15] at z15 hf24 hCL
    have qf15 : uq F307 U V15 := qf14.tr z15 rfl
    have hKe : KNV m V15 Y P f od es := hK.q qf15 rfl
    have hMe := (show MCS V15 from ⟨by rw [(show (V15.1 22) = (Va.1 22) from (z15.t 22 rfl))]; exact hMa.1, by rw [(show (V15.2.2.1 100 3).1 = (Va.2.2.1 100 3).1 from (z15.n 100 3 rfl))]; exact hMa.2.1, by rw [(show (V15.2.2.1 100 8).1 = (Va.2.2.1 100 8).1 from (z15.n 100 8 rfl))]; exact hMa.2.2.1, by rw [(show (V15.2.2.1 100 12).1 = (Va.2.2.1 100 12).1 from (z15.n 100 12 rfl))]; exact hMa.2.2.2.1, by rw [(show (V15.2.2.1 100 13).1 = (Va.2.2.1 100 13).1 from (z15.n 100 13 rfl))]; exact hMa.2.2.2.2.1, by rw [(show (V15.2.2.1 100 15).1 = (Va.2.2.1 100 15).1 from (z15.n 100 15 rfl))]; exact hMa.2.2.2.2.2⟩)
    have hle : LDW V15 Y P f od a0 N0 i0 := (hTRa.ldw hK.2.1).keep (show (V15.1 21) = (Va.1 21) from (z15.t 21 rfl)) (show (V15.1 22) = (Va.1 22) from (z15.t 22 rfl)) (show (V15.1 15) = (Va.1 15) from (z15.t 15 rfl)) (show (V15.2.2.1 100 3) = (Va.2.2.1 100 3) from (z15.a 100 3 rfl)) (show (V15.2.1 100 5) = (Va.2.1 100 5) from (z15.i 100 5 rfl)) (show (V15.2.1 100 7) = (Va.2.1 100 7) from (z15.i 100 7 rfl)) (show (V15.2.1 100 17) = (Va.2.1 100 17) from (z15.i 100 17 rfl)) (show (V15.2.1 100 4) = (Va.2.1 100 4) from (z15.i 100 4 rfl)) (show (V15.2.2.1 100 8) = (Va.2.2.1 100 8) from (z15.a 100 8 rfl)) (show (V15.2.2.1 100 12).1 = (Va.2.2.1 100 12).1 from (z15.n 100 12 rfl)) (show (V15.2.2.1 100 13).1 = (Va.2.2.1 100 13).1 from (z15.n 100 13 rfl)) (show (V15.2.2.1 100 15).1 = (Va.2.2.1 100 15).1 from (z15.n 100 15 rfl)) (show (V15.2.2.1 99 8) = (Va.2.2.1 99 8) from (z15.a 99 8 rfl))
    have hze : ∃ bf bt, BZ V15 bf bt := by obtain ⟨b1, b2, b3⟩ := hBZa; exact ⟨b1, b2, BZ_keep b3 (show (V15.2.1 129 19) = (Va.2.1 129 19) from (z15.i 129 19 rfl)) (show (V15.2.1 129 20) = (Va.2.1 129 20) from (z15.i 129 20 rfl)) (show (V15.2.2.2.2.1 146) = (Va.2.2.2.2.1 146) from (z15.l 146 rfl))⟩
    rw [show min (i * W) T0 = pm mk f P by omega] at hTBa
    have hTe := hTBa.eq (V1 := V15) (show (V15.2.1 113 1) = (Va.2.1 113 1) from (z15.i 113 1 rfl)) (show (V15.2.1 113 2) = (Va.2.1 113 2) from (z15.i 113 2 rfl)) (show (V15.2.1 113 5) = (Va.2.1 113 5) from (z15.i 113 5 rfl)) (show (V15.2.2.1 113 3) = (Va.2.2.1 113 3) from (z15.a 113 3 rfl)) (show (V15.2.2.1 113 4) = (Va.2.2.1 113 4) from (z15.a 113 4 rfl)) (show (V15.2.2.1 129 4) = (Va.2.2.1 129 4) from (z15.a 129 4 rfl)) (z15.2.2.2.2.2 rfl)
    refine mw_of (fun _ => mu_ret rfl trivial ⟨Q15, rfl, u15, ht15, (by rw [d15]; exact qf15), ?_⟩)
    rw [d15]
    refine ⟨hKe, hMe, hle, hze, hTe, ⟨(show (V15.2.1 129 5) = nI (ou + pm mk f P) from ((z15.i 129 5 rfl).trans ((zza.i 129 5 rfl).trans ((z3.i 129 5 rfl).trans o5)))), by rw [show (V15.2.2.1 129 4).1 = (V2.2.2.1 129 4).1 from ((z15.n 129 4 rfl).trans ((zza.n 129 4 rfl).trans (z3.n 129 4 rfl)))]; exact oln, by rw [show (V15.2.2.1 129 4).1 = (V2.2.2.1 129 4).1 from ((z15.n 129 4 rfl).trans ((zza.n 129 4 rfl).trans (z3.n 129 4 rfl)))]; exact oOL⟩, ?_, ?_⟩
    · rw [hf24]; exact tab24 (show ((upA Va 129 14 k (mu_min y12 mt)).1 24) = (U.1 24) from ((zza.t 24 rfl).trans ((z3.t 24 rfl).trans (z2.t 24 rfl))))
    · exact CLS_base hCL (show ((upA Va 129 14 k (mu_min y12 mt)).2.2.1 129 7) = (U.2.2.1 129 7) from ((zza.a 129 7 rfl).trans ((z3.a 129 7 rfl).trans (z2.a 129 7 rfl)))) (fun t _ => by rw [(show (V15.2.2.1 129 4) = (Va.2.2.1 129 4) from (z15.a 129 4 rfl)), (show ((upA Va 129 14 k (mu_min y12 mt)).2.2.1 129 4) = (Va.2.2.1 129 4) from rfl)])
end Tabulate
