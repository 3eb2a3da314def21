/-! RELATION: tabulate -/
/-- how many choices there are at most -/
def CHK (Y : Ts) (b : Bool) (a N wd : Nat) : Prop := (b = true → ∀ x, x < N → (oc Y (a + x) = 32 ∨ oc Y (a + x) = 33) → plen (oc Y (a + x)) (oa Y (a + x)) ≤ wd) ∧ (b = false → tpz Y a N ≤ wd)
/-- tables under way: n cells of outs from a place on name sets -/
def TBX (U V : Ud) (N us : Nat) (S : Nat → Nat → Bool) (z : Nat → Nat) (p : Nat → Bool) (sp ou n : Nat) (Q : Nat → Nat → Prop) : Prop := (∀ a c, ¬ a = 114 → V.2.2.2.2.2 a c = U.2.2.2.2.2 a c) ∧ (∀ j, ¬ (ou ≤ j ∧ j < ou + n) → (V.2.2.1 129 4).2 j = (U.2.2.1 129 4).2 j) ∧ ∃ (N' us' : Nat) (S' : Nat → Nat → Bool) (z' : Nat → Nat) (p' : Nat → Bool) (oid : Nat → Nat), SOK V N' us' S' z' p' ∧ (N ≤ N' ∧ N' ≤ N + n) ∧ (∀ j, j < N → S' j = S j ∧ z' j = z j ∧ p' j = p j) ∧ (us ≤ us' ∧ us' + 256 * (us / 8192) ≤ us + 256 * (us' / 8192) + n * (sp + 1) ∧ N' + us ≤ N + us') ∧ ∀ c, c < n → (V.2.2.1 129 4).2 (ou + c) = nI (oid c) ∧ oid c < N' ∧ p' (oid c) = true ∧ ∀ x, S' (oid c) x = true ↔ Q c x
section Chosen
variable {V : Ud} {m a0 N0 l lane k wd : Nat} {Y : Ts} {lv : Nat → Nat → Int32} {Lk : List Bool} {b : Bool}
theorem chv_ofK (hR : RSL V Y a0 N0 l lv) (hn : lane < l) (hC : Cc Y) (hr : rg Y k true a0 (a0 + N0)) (hwd : ∀ x, x < N0 → (oc Y (a0 + x) = 32 ∨ oc Y (a0 + x) = 33) → plen (oc Y (a0 + x)) (oa Y (a0 + x)) ≤ wd) : ∃ K cv, CHV m V lane K cv ∧ (K < 2147483648 ∧ K ≤ max 1 wd) ∧ ∀ v, (∃ i, i < K ∧ cv i = v) ↔ chq Y (lv lane) a0 N0 v := by
  obtain ⟨V0, O, A, W, it, hri, ⟨h5, h7⟩, ⟨hcO, hOA, hA⟩, h15, h15b⟩ := hR
  obtain ⟨cp1, cp2⟩ := cp_pos hC hr
  have h1p := rg_1 hr
  rw [Nat.add_sub_cancel_left] at h1p
  have hkd : kdz Y a0 N0 0 = true := by
    have z := kst_kd hr.2.2.1 0 (by rw [Nat.add_sub_cancel_left]; omega)
    rw [Nat.add_sub_cancel_left, h1p] at z
    exact (Option.some.inj z).symm
  have hv := hri.2.2.1 0 lane (by omega) hn
  have hsb := fsz_le (Y := Y) (a := a0) (n := N0) (snz Y a0 N0) (Nat.le_refl _)
  have keep : ∀ V', MCQ V V' → ri V0 V' Y O (sfz Y a0 N0) A W l a0 N0 lv it := fun V' q => ri_keep hri (q.1 17) (q.1 18) (q.1 14) (q.1 16) (q.2.1 8) (q.2.1 12) (q.2.1 13) (q.2.1 15)
  rcases chz_n (lv := lv lane) hC hr N0 (Nat.le_refl _) 0 (by omega) hkd with ⟨c, c1, c2⟩ | z
  · have hm := fsz_mono (Y := Y) (a := a0) (n := N0) c c1
    have hm2 := fsz_le (Y := Y) (a := a0) (n := N0) (c + 1) (by omega)
    refine ⟨fszU Y a0 N0 (c + 1) - fszU Y a0 N0 c, fun k => kvz Y (lv lane) a0 N0 (fszU Y a0 N0 c + k), fun d H V' hu hd hq => ?_, ⟨by omega, by have := fsz_gap N0 hwd c c1; omega⟩, fun v => ⟨fun ⟨i, i1, i2⟩ => Or.inr ⟨c, c1, c2, i, i1, i2⟩, fun q => ?_⟩⟩
    · have hri' := keep V' hq
      obtain ⟨r1, r2, r3, ⟨r4, r5, r6⟩, r7, r8⟩ := id hri'
      have e15 : (V'.2.2.1 100 15).1 = (V.2.2.1 100 15).1 := congrArg Prod.fst (hq.2.1 15)
      refine ⟨mc_choicesC (d := d) (c := c) (sc := snz Y a0 N0) (fs := fszU Y a0 N0) hu hd r1 ((hq.1 7).trans h7) ((hq.1 5).trans h5) hn cp1 (by omega) (by omega) ((r3 0 lane (by omega) hn).trans c2) c1 (by omega) (by omega) r5 hm (by omega), fun k hk => ?_⟩
      have r9 := r7 (fszU Y a0 N0 c + k) lane (by omega) hn
      refine (mc_choiceC (d := d) (k := k) (c := c) (sc := snz Y a0 N0) (fs := fszU Y a0 N0) hu hd r1 ((hq.1 7).trans h7) ((hq.1 5).trans h5) hn cp1 (by omega) (by omega) ((r3 0 lane (by omega) hn).trans c2) c1 (by omega) (by omega) r5 hm (by omega) hcO (by omega) (by omega)).imp (fun x H1 q => ⟨q.1.trans ?_, q.2⟩)
      rw [Nat.add_assoc]
      exact r9
    · rcases q with ⟨q1, -⟩ | ⟨c', q1, q2, k, q3, q4⟩
      · rw [c2] at q1
        exact absurd q1 (nI_neg1 (by omega))
      · have e0 : c = c' := (nI_eq (by omega) (by omega)).mp (c2.symm.trans q2)
        rw [← e0] at q3 q4
        exact ⟨k, q3, q4⟩
  · refine ⟨1, fun _ => 0, fun d H V' hu hd hq => ?_, ⟨by decide, by omega⟩, fun v => ⟨fun ⟨i, i1, i2⟩ => Or.inl ⟨z, i2.symm⟩, fun q => ?_⟩⟩
    · have hri' := keep V' hq
      obtain ⟨r1, r2, r3, -⟩ := id hri'
      exact ⟨mc_choicesN (d := d) hu hd r1 ((hq.1 7).trans h7) ((hq.1 5).trans h5) hn cp1 (by omega) (by omega) ((r3 0 lane (by omega) hn).trans z), fun k hk => mc_choiceN (d := d) (k := k) hu hd r1 ((hq.1 7).trans h7) ((hq.1 5).trans h5) hn cp1 (by omega) (by omega) ((r3 0 lane (by omega) hn).trans z)⟩
    · rcases q with ⟨-, q1⟩ | ⟨c', q1, q2, -⟩
      · exact ⟨0, by decide, q1.symm⟩
      · rw [z] at q2
        exact absurd q2.symm (nI_neg1 (by omega))
theorem chv_ofsK (hR : RSL V Y a0 N0 l lv) (hn : lane < l) (hr : rgs Y k Lk a0 (a0 + N0)) (hf : ¬ true ∈ Lk) (htp : tpz Y a0 N0 ≤ wd) : ∃ K cv, CHV m V lane K cv ∧ (K < 2147483648 ∧ K ≤ max 1 wd) ∧ ∀ v, (∃ i, i < K ∧ cv i = v) ↔ ∃ i, i < tpz Y a0 N0 ∧ svz Y (lv lane) a0 N0 i = v := by
  obtain ⟨V0, O, A, W, it, hri, ⟨h5, h7⟩, ⟨hcO, hOA, hA⟩, h15, h15b⟩ := hR
  have h0 := rgs_f hr hf
  have h13 := hri.1.2.2.1
  have h13b := hri.1.2.2.2.1
  refine ⟨tpz Y a0 N0, fun i => svz Y (lv lane) a0 N0 i, fun d H V' hu hd hq => ?_, ⟨by omega, by omega⟩, fun v => Iff.rfl⟩
  have hri' : ri V0 V' Y O (sfz Y a0 N0) A W l a0 N0 lv it := ri_keep hri (hq.1 17) (hq.1 18) (hq.1 14) (hq.1 16) (hq.2.1 8) (hq.2.1 12) (hq.2.1 13) (hq.2.1 15)
  refine ⟨mc_choices0 (d := d) hu hd hri'.1 ((hq.1 7).trans h7) ((hq.1 5).trans h5) hn h0, fun i hi => (mc_choice0 (d := d) (k := i) hu hd hri'.1 ((hq.1 7).trans h7) ((hq.1 5).trans h5) hn h0 hi).imp (fun x H1 q => ⟨q.1.trans (hri'.2.2.1 i lane hi hn), q.2⟩)⟩
theorem chv_anyK (hR : RSL V Y a0 N0 l lv) (hn : lane < l) (hC : Cc Y) (hr : rgs Y k Lk a0 (a0 + N0)) (hb : (b = true → Lk = [true]) ∧ (b = false → ¬ true ∈ Lk)) (hk : CHK Y b a0 N0 wd) : ∃ K cv, CHV m V lane K cv ∧ (K < 2147483648 ∧ K ≤ max 1 wd) ∧ ∀ v, (∃ i, i < K ∧ cv i = v) ↔ CHW Y b (lv lane) a0 N0 v := by
  cases b with
  | true =>
    rw [hb.1 rfl] at hr
    obtain ⟨K, cv, y1, y2, y3⟩ := chv_ofK (m := m) hR hn hC (show rg Y k true a0 (a0 + N0) from hr) (hk.1 rfl)
    exact ⟨K, cv, y1, y2, fun v => (y3 v).trans ⟨fun q => Or.inl ⟨rfl, q⟩, fun q => q.elim (fun y => y.2) (fun y => by cases y.1)⟩⟩
  | false =>
    obtain ⟨K, cv, y1, y2, y3⟩ := chv_ofsK (m := m) hR hn hr (hb.2 rfl) (hk.2 rfl)
    exact ⟨K, cv, y1, y2, fun v => (y3 v).trans ⟨fun q => Or.inr ⟨rfl, q⟩, fun q => q.elim (fun y => by cases y.1) (fun y => y.2)⟩⟩
end Chosen
section Tabulate
variable {H : mu_H} {U V V1 V2 : Ud} {m d P a0 N0 i0 k ou us N nf nb bf bt mo kb T0 n nn N' us' id spn c : Nat} {C : Nat → Nat} {bo : Nat → Nat → Nat} {nm tm : Nat → Int32} {Y : Ts} {f od z z' ls oid bs : Nat → Nat} {es rs : Nat → Int32} {al mk : Int32} {S S' : Nat → Nat → Bool} {p p' : Nat → Bool} {Q Q' : Nat → Nat → Prop}
variable {Lk : List Bool} {b : Bool}
theorem TBX.init (hS : SOK V N us S z p) (hp : ∀ a c, ¬ a = 114 → V.2.2.2.2.2 a c = U.2.2.2.2.2 a c) (ho : ∀ j, (V.2.2.1 129 4).2 j = (U.2.2.1 129 4).2 j) : TBX U V N us S z p spn ou 0 Q := ⟨hp, fun j _ => ho j, N, us, S, z, p, fun _ => 0, hS, ⟨Nat.le_refl _, by omega⟩, fun _ _ => ⟨rfl, rfl, rfl⟩, ⟨Nat.le_refl _, by omega⟩, fun c hc => absurd hc (Nat.not_lt_zero c)⟩
theorem TBX.eq (h : TBX U V N us S z p spn ou n Q) (e1 : V1.2.1 113 1 = V.2.1 113 1) (e2 : V1.2.1 113 2 = V.2.1 113 2) (e5 : V1.2.1 113 5 = V.2.1 113 5) (e3 : V1.2.2.1 113 3 = V.2.2.1 113 3) (e4 : V1.2.2.1 113 4 = V.2.2.1 113 4) (ea : V1.2.2.1 129 4 = V.2.2.1 129 4) (ep : V1.2.2.2.2.2 = V.2.2.2.2.2) : TBX U V1 N us S z p spn ou n Q := by
  obtain ⟨h1, h2, N', us', S', z', p', oid, h3, h4⟩ := h
  refine ⟨by rw [ep]; exact h1, by rw [ea]; exact h2, N', us', S', z', p', oid, h3.eq e1 e2 e5 e3 e4 (by rw [ep]), ?_⟩
  rw [ea]
  exact h4
theorem TBX.mono (h : TBX U V N us S z p spn ou n Q) (hq : ∀ c, c < n → ∀ x, Q c x ↔ Q' c x) : TBX U V N us S z p spn ou n Q' := by
  obtain ⟨h1, h2, N', us', S', z', p', oid, h3, h4, h5, h6, h7⟩ := h
  exact ⟨h1, h2, N', us', S', z', p', oid, h3, h4, h5, h6, fun c hc => ⟨(h7 c hc).1, (h7 c hc).2.1, (h7 c hc).2.2.1, fun x => ((h7 c hc).2.2.2 x).trans (hq c hc x)⟩⟩
theorem TBX.step (hTp : ∀ a c, ¬ a = 114 → V.2.2.2.2.2 a c = U.2.2.2.2.2 a c) (hTo : ∀ j, ¬ (ou ≤ j ∧ j < ou + n) → (V.2.2.1 129 4).2 j = (U.2.2.1 129 4).2 j) (hNb : N ≤ N' ∧ N' ≤ N + n) (hNS : ∀ j, j < N → S' j = S j ∧ z' j = z j ∧ p' j = p j) (hUb : us ≤ us' ∧ us' + 256 * (us / 8192) ≤ us + 256 * (us' / 8192) + n * (spn + 1) ∧ N' + us ≤ N + us') (hcl : ∀ c, c < n → (V.2.2.1 129 4).2 (ou + c) = nI (oid c) ∧ oid c < N' ∧ p' (oid c) = true ∧ ∀ x, S' (oid c) x = true ↔ Q c x) (ep : V1.2.2.2.2.2 = V.2.2.2.2.2) (ea : V1.2.2.1 129 4 = V.2.2.1 129 4) (hA : ADD V1 V2 N' us' S' z' p' ls nn id) (hln : ∀ ln, ln ≤ (nn + 3) / 4 → (1 ≤ nn → ln ≤ ls (nn - 1) / 64 + 1) → ln ≤ spn) (hub : us' + 256 < 1507328) (hq : ∀ x, lmz ls nn x = true ↔ Q n x) : TBX U (upA V2 129 4 (ou + n) (nI id)) N us S z p spn ou (n + 1) Q := by
  obtain ⟨hq1, ho1, N2, us2, S2, z2, p2, ln, hS2, hid, ⟨b1, b2⟩, hold, ⟨hSi, hzi⟩, ⟨u1, u2⟩, ⟨l1, l2⟩, hpi⟩ := hA
  have hsl := hln ln l1 l2
  obtain ⟨hpi1, hpi2⟩ := hpi hub
  have hat : ∀ j, ((upA V2 129 4 (ou + n) (nI id)).2.2.1 129 4).2 j = if j = ou + n then nI id else (V.2.2.1 129 4).2 j := fun j => by
    show (if j = ou + n then nI id else (V2.2.2.1 129 4).2 j) = _
    rw [hq1.a 129 4 rfl, ea]
  have hsm : (n + 1) * (spn + 1) = n * (spn + 1) + (spn + 1) := Nat.succ_mul n (spn + 1)
  refine ⟨fun a c h => (ho1 a c h).trans ((congrFun (congrFun ep a) c).trans (hTp a c h)), fun j hj => ?_, N2, us2, S2, z2, p2, fun c => if c = n then id else oid c, hS2.eq rfl rfl rfl rfl rfl rfl, ⟨by omega, by omega⟩, fun j hj => ?_, ⟨by omega, by omega⟩, fun c hc => ?_⟩
  · rw [hat, if_neg (by omega)]
    exact hTo j (by omega)
  · obtain ⟨y1, y2, y3⟩ := hold j (by omega)
    obtain ⟨w1, w2, w3⟩ := hNS j hj
    exact ⟨y1.trans w1, y2.trans w2, y3.trans w3⟩
  · rw [hat]
    show (if ou + c = ou + n then nI id else (V.2.2.1 129 4).2 (ou + c)) = nI (if c = n then id else oid c) ∧ (if c = n then id else oid c) < N2 ∧ p2 (if c = n then id else oid c) = true ∧ ∀ x, S2 (if c = n then id else oid c) x = true ↔ Q c x
    by_cases hcn : c = n
    · rw [if_pos (by omega), if_pos hcn]
      refine ⟨rfl, hid, hpi1, fun x => ?_⟩
      rw [hSi, hcn]
      exact hq x
    · obtain ⟨w1, w2, w3, w4⟩ := hcl c (by omega)
      rw [if_neg (by omega), if_neg hcn]
      obtain ⟨y1, y2, y3⟩ := hold (oid c) w2
      refine ⟨w1, by omega, y3.trans w3, fun x => ?_⟩
      rw [y1]
      exact w4 x
def F307 : Uf := ⟨[22, 24], [(100, 18), (100, 21), (100, 19), (100, 20), (100, 14), (100, 16), (113, 1), (113, 2), (129, 11), (129, 19), (129, 20), (129, 5)], [(100, 8), (100, 12), (100, 9), (100, 10), (100, 11), (100, 13), (100, 15), (113, 3), (113, 4), (129, 10), (129, 4), (129, 14)], [(113, 3), (129, 4)], [117, 146], true⟩
theorem BZ_keep (h : BZ U bf bt) (h1 : V.2.1 129 19 = U.2.1 129 19) (h2 : V.2.1 129 20 = U.2.1 129 20) (h3 : V.2.2.2.2.1 146 = U.2.2.2.2.1 146) : BZ V bf bt := by
  unfold BZ at *
  rw [h1, h2, h3]
  exact h
theorem LDW.now (hl : LDW U Y P f od a0 N0 i0) (hmk : U.2.1 100 4 = mk) (hnx : ¬ NXW Y (U.1 15) P a0 N0 i0) : ∀ k, k < 28 → ¬ mb mk k = 0 → k < P := by
  obtain ⟨S0, K, dp, W, mk', M, rk, l1, l2, l3, l4⟩ := hl
  have emk : mk' = mk := l2.1.2.2.2.symm.trans hmk
  subst emk
  intro k hk hb
  obtain ⟨y1, y2, y3⟩ := l3.2.2 k (by omega) hb
  have : k < 14 := Nat.lt_of_not_le (fun y => hnx (y3 y))
  omega
theorem lmz_in {i : Nat} (h : i < nn) : lmz ls nn (ls i) = true := (lmz_iff nn).mpr ⟨i, h, rfl⟩
theorem pig_le : ∀ (K n : Nat) (g : Nat → Nat), (∀ i, i < n → g i < K) → (∀ i j, i < n → j < n → g i = g j → i = j) → n ≤ K
  | 0, n, g, h1, _ => Nat.le_of_not_lt (fun y => Nat.not_lt_zero _ (h1 0 y))
  | K + 1, n, g, h1, h2 => by
    by_cases hx : ∃ i, i < n ∧ g i = K
    · obtain ⟨i0, y1, y2⟩ := hx
      have ih := pig_le K (n - 1) (fun i => if i < i0 then g i else g (i + 1)) (fun i hi => by
        show (if i < i0 then g i else g (i + 1)) < K
        by_cases hc : i < i0
        · rw [if_pos hc]
          have w1 := h1 i (by omega)
          have w2 : ¬ g i = K := fun w => absurd (h2 i i0 (by omega) y1 (w.trans y2.symm)) (by omega)
          omega
        · rw [if_neg hc]
          have w1 := h1 (i + 1) (by omega)
          have w2 : ¬ g (i + 1) = K := fun w => absurd (h2 (i + 1) i0 (by omega) y1 (w.trans y2.symm)) (by omega)
          omega) (fun i j hi hj w => by
        have w : (if i < i0 then g i else g (i + 1)) = (if j < i0 then g j else g (j + 1)) := w
        by_cases c1 : i < i0
        · by_cases c2 : j < i0
          · rw [if_pos c1, if_pos c2] at w
            exact h2 i j (by omega) (by omega) w
          · rw [if_pos c1, if_neg c2] at w
            have := h2 i (j + 1) (by omega) (by omega) w
            omega
        · by_cases c2 : j < i0
          · rw [if_neg c1, if_pos c2] at w
            have := h2 (i + 1) j (by omega) (by omega) w
            omega
          · rw [if_neg c1, if_neg c2] at w
            have := h2 (i + 1) (j + 1) (by omega) (by omega) w
            omega)
      omega
    · have ih := pig_le K n g (fun i hi => by
        have w1 := h1 i hi
        have w2 : ¬ g i = K := fun w => hx ⟨i, hi, w⟩
        omega) h2
      omega
theorem list_le {K : Nat} {cv : Nat → Int32} {vl : Nat → Int32} (hr : ∀ i j, i < j → j < nn → ls i < ls j) (hc : ∀ i, i < nn → ∃ j, j < K ∧ cv j = vl (ls i)) (hd : ∀ a c, a < n → c < n → vl a = vl c → a = c) (hb : ∀ i, i < nn → ls i < n) : nn ≤ K := by
  have hg : ∃ g : Nat → Nat, ∀ i, i < nn → g i < K ∧ cv (g i) = vl (ls i) :=
    ⟨fun i => if h : i < nn then Classical.choose (hc i h) else 0, fun i hi => by
      show (if h : i < nn then Classical.choose (hc i h) else 0) < K ∧ cv (if h : i < nn then Classical.choose (hc i h) else 0) = vl (ls i)
      rw [dif_pos hi]
      exact Classical.choose_spec (hc i hi)⟩
  obtain ⟨g, hg⟩ := hg
  refine pig_le K nn g (fun i hi => (hg i hi).1) (fun i j hi hj w => ?_)
  have e1 := (hg i hi).2
  rw [w, (hg j hj).2] at e1
  have e2 := hd _ _ (hb j hj) (hb i hi) e1
  rcases Nat.lt_trichotomy i j with y | y | y
  · have := hr i j y hj
    omega
  · exact y
  · have := hr j i y hi
    omega
theorem sub_le {gg : Nat → Nat} {lw : Nat} (hg : ∀ i j, i < j → j < lw → gg i < gg j) (hr : ∀ i j, i < j → j < nn → ls i < ls j) (hs : ∀ j, j < lw → ∃ q, q < nn ∧ ls q = gg j) : lw ≤ nn := by
  have hc : ∃ g : Nat → Nat, ∀ i, i < lw → g i < nn ∧ ls (g i) = gg i :=
    ⟨fun i => if h : i < lw then Classical.choose (hs i h) else 0, fun i hi => by
      show (if h : i < lw then Classical.choose (hs i h) else 0) < nn ∧ ls (if h : i < lw then Classical.choose (hs i h) else 0) = gg i
      rw [dif_pos hi]
      exact Classical.choose_spec (hs i hi)⟩
  obtain ⟨g, hc⟩ := hc
  refine pig_le nn lw g (fun i hi => (hc i hi).1) (fun i j hi hj w => ?_)
  have e1 := (hc i hi).2
  rw [w, (hc j hj).2] at e1
  rcases Nat.lt_trichotomy i j with y | y | y
  · have := hg i j y hj
    omega
  · exact y
  · have := hg j i y hi
    omega
theorem top_place (hk : k < 14) : (31 : Int32) - ji_lz ((1 : Int32) <<< (nI k &&& 31)) = nI k := by
  have key : ∀ k : Fin 14, (31 : Int32) - ji_lz ((1 : Int32) <<< (nI k.1 &&& 31)) = nI k.1 := by decide +kernel
  exact key ⟨k, hk⟩
theorem tab24 (e : V.1 24 = U.1 24) {mk tm b4 : Int32} {nf l : Int32} : ax 24 (ap 24 V.1 mk tm b4 0) nf 4 l 24 = ax 24 (ap 24 U.1 mk tm b4 0) nf 4 l 24 := by
  show tset (wa 24) (tput (wa 24) (V.1 24) mk tm b4 0) nf 4 l = tset (wa 24) (tput (wa 24) (U.1 24) mk tm b4 0) nf 4 l
  rw [e]
theorem CLS_base {T : Nat} {ky ky' : Nat → Int32} (h : CLS V V1 T ky) (e : V.2.2.1 129 7 = U.2.2.1 129 7) (hk : ∀ t, t < T → ky t = ky' t) : CLS U V1 T ky' := by
  obtain ⟨cl, h1, h2⟩ := h
  refine ⟨cl, h1, fun t t' ht ht' => ?_⟩
  rw [h2 t t' ht ht', e, hk t ht, hk t' ht']
def F307a : Uf := ⟨[22], [(100, 14), (100, 16), (100, 21), (100, 18), (100, 19), (113, 1), (113, 2), (129, 11), (129, 19), (129, 20)], [(100, 8), (100, 9), (100, 10), (100, 11), (100, 12), (100, 13), (100, 15), (113, 3), (113, 4), (129, 10), (129, 4)], [(113, 3)], [117, 146], true⟩
def F307b : Uf := ⟨[], [(113, 1), (113, 2), (129, 11), (129, 19), (129, 20)], [(113, 3), (113, 4), (129, 10), (129, 4)], [(113, 3)], [117, 146], true⟩
/-- PathProver$Relation.tabulate(I)V -/
abbrev mu_m307 : ev_M := (9, none, [], ev_b307)
theorem mu_g307 : mu_good mu_m307 := mu_goodk ev_k307
theorem rl_tab0 (h : um m H) (e : ud m H = U) (hK : KNV m U Y P f od es) (hM : MCS U) (hl : LDW U Y P f od a0 N0 i0) (hi0 : i0 < (Y 11).1) (hr0 : rgs Y (im Y i0) Lk a0 (a0 + N0)) (hLk : 1 ≤ Lk.length) (hb : (b = true → Lk = [true]) ∧ (b = false → ¬ true ∈ Lk)) (hs0 : SRT Y es i0 al a0 rs N0) (hal : ¬ al = 2) (hmk : U.2.1 100 4 = mk) (hnx : ¬ NXW Y (U.1 15) P a0 N0 i0) (hmo : CHK Y b a0 N0 mo) (hmo1 : 1 ≤ mo) (hk : k < P) (hV : VDF U P f) (hz : BZ U bf bt) (hSO : SOK U N us S z p) (hF : FMS U nf nm tm nb bo) (hbs : ∀ q, q < nf → (U.1 24).2 q 2 = nI (bs q)) (hou : U.2.1 129 5 = nI ou) (hol : ou ≤ (U.2.2.1 129 4).1) (hOL : OLN (U.2.2.1 129 4).1) (hN : N + pm mk f P ≤ 500000) (hX : us + pm mk f P * ((min ((mo + 3) / 4) ((f k + 63) / 64)) + 1) ≤ 1400000) (hLl : pd f 0 P + 4 ≤ (U.2.2.1 129 10).1) (hLlb : (U.2.2.1 129 10).1 ≤ 16777216) (hC1 : 2 * ((nf + 1) * 6) + 6 ≤ C 24) (hC2 : C 24 ≤ 8388608) (hnk : ∀ q, ¬ KNF nf nm tm (bo (nb - 1) 0) mk ((1 : Int32) <<< (nI k &&& 31)) q) (hfit : ou + pm mk f P ≤ 32768) : mu_TV (mu_D (d + 8)) 307 [.inr (.inr (some 129)), .inl (nI k)] H (fun H1 => um m H1 ∧ ur m C H H1 ∧ uq F307 U (ud m H1) ∧ KNV m (ud m H1) Y P f od es ∧ MCS (ud m H1) ∧ LDW (ud m H1) Y P f od a0 N0 i0 ∧ (∃ bf bt, BZ (ud m H1) bf bt) ∧ (∃ V0 : Ud, (∀ a c, V0.2.2.2.2.2 a c = U.2.2.2.2.2 a c) ∧ (∀ j, j < ou → (V0.2.2.1 129 4).2 j = (U.2.2.1 129 4).2 j) ∧ TBX V0 (ud m H1) N us S z p (min ((mo + 3) / 4) ((f k + 63) / 64)) ou (pm mk f P) (fun c x => x < f k ∧ CHW Y b (lvl Y (vlz U f mk 0 c) (vlz U f mk 14 c) (evz Y od (vlz U f mk 0 c)) i0) a0 N0 ((U.2.2.1 99 8).2 (sm f 0 k + x)))) ∧ ((ud m H1).2.1 129 5 = nI (ou + pm mk f P) ∧ ou + pm mk f P ≤ ((ud m H1).2.2.1 129 4).1 ∧ OLN ((ud m H1).2.2.1 129 4).1) ∧ (ud m H1).1 24 = tset 6 (tput 6 (U.1 24) mk ((1 : Int32) <<< (nI k &&& 31)) (nI ou) 0) (nI nf) 4 (nI k)) := by
  obtain ⟨⟨s4, s10, s11, s12⟩, hk5, ⟨g8, g8b, g18, g18b⟩, ⟨gP, gpd, gsm⟩, hsp, hmo'⟩ := id hK.1
  have hP : P ≤ 14 := gP
  have hpm := pm_le (mk := mk) (f := f) (n := P) (fun k _ => hK.2.1 k)
  have hfT : f k ≤ pd f 0 P := fk_pd hk gP hK.2.1
  have hfk1 := hK.2.1 k
  obtain ⟨T0, hT0⟩ : ∃ T0, T0 = tqz mk f 28 := ⟨_, rfl⟩
  have hmv2 : ∀ k, k < 28 → ¬ mb mk k = 0 → k < P := LDW.now hl hmk hnx
  have hTw := tqz_28 hT0 hmv2 hP
  rw [wn_pm] at hTw
  refine mu_meth (M := mu_m307) rfl rfl ?_
  refine mw_ht (mu_fn_of (show [0, 1].Nodup by decide)) ?_
  refine mw_go mu_g307 (k := 2) (f1 := (4, [(0, .inr (.inr (some 129))), (1, .inl (nI k))], [.inr (.inr (mu_r H 129 0))], H)) (C := [mu_is H (some 129) 9]) rfl (show mu_is H (some 129) 9 from (h.1.1.is rfl)) ?_
  rw [(h.1.1.r (p := 129) (j := 0) (q := 99) rfl)]
  refine mw_go mu_g307 (k := 1) (f1 := (7, [(0, .inr (.inr (some 129))), (1, .inl (nI k))], [.inr (.inr (mu_r H 99 1))], H)) (C := [mu_is H (some 99) 13]) rfl (show mu_is H (some 99) 13 from (h.1.1.is rfl)) ?_
  rw [(h.1.1.r (p := 99) (j := 1) (q := 100) rfl)]
  refine mw_go mu_g307 (k := 1) (f1 := (10, [(0, .inr (.inr (some 129))), (1, .inl (nI k))], [.inl (mu_i H 100 4)], H)) (C := [mu_is H (some 100) 5]) rfl (show mu_is H (some 100) 5 from (h.1.1.is rfl)) ?_
  rw [(show mu_i H 100 4 = mk from (ud_i (U := U) (m := m) (P := 100) (j := 4) e rfl).trans hmk)]
  refine mw_go mu_g307 (k := 6) (f1 := (16, [(2, .inl mk), (0, .inr (.inr (some 129))), (1, .inl (nI k))], [.inl ((1 : Int32) <<< ((nI k) &&& 31)), .inl mk, .inr (.inr (some 129))], H)) (C := []) rfl trivial ?_
  refine mw_cIe (fun _ => rfl) (show mu_is H (some 129) 9 from (h.1.1.is rfl)) (rl_facN (d := (d + 5)) (mk := mk) (tk := ((1 : Int32) <<< (nI k &&& 31))) h e hF hnk) ?_
  refine mw_if (P := (-1 : Int32) < 0) (a := 26) (b := 22) (fun _ => rfl) trivial (fun h2 => ?_) (fun h2 => absurd (by decide) h2)
  refine mw_go mu_g307 (k := 7) (f1 := (33, [(3, .inl (0 : Int32)), (2, .inl mk), (0, .inr (.inr (some 129))), (1, .inl (nI k))], [.inl ((1 : Int32) <<< ((nI k) &&& 31)), .inl mk, .inr (.inr (some 129))], H)) (C := []) rfl trivial ?_
  refine mw_cI (fun _ => rfl) (show mu_is H (some 129) 9 from (h.1.1.is rfl)) (rl_opentN (d := (d + 3)) (C := C) (mk := mk) (tk := ((1 : Int32) <<< (nI k &&& 31))) (bs := bs) (ou := ou) (lw := nI k) h e hK.1 hF hbs hou hOL hol (fun _ => hfit) (top_place (by omega)) hC1 hC2 hnk) (fun x3 Q3 q3 => ?_)
  obtain ⟨rfl, u3, r3, z3, o5, ⟨oln, oOL, oold⟩, o24⟩ := q3
  have ht3 : ur m C H Q3 := (ur.refl m C H).trans r3
  obtain ⟨V3, d3⟩ : ∃ V, ud m Q3 = V := ⟨_, rfl⟩
  rw [d3] at z3 o5 oln oOL oold o24
  have qf3 : uq F307 U V3 := (uq.refl F307 U).tr z3 rfl
  have hzv : True := trivial
  have hOb : (V3.2.2.1 129 4).1 ≤ 32768 := by rcases oOL with y | y | y <;> omega
  refine mw_go mu_g307 (k := 3) (f1 := (42, [(4, .inl (nI ou)), (3, .inl (0 : Int32)), (2, .inl mk), (0, .inr (.inr (some 129))), (1, .inl (nI k))], [.inr (.inr (mu_r Q3 129 0))], Q3)) (C := [mu_is Q3 (some 129) 9]) rfl (show mu_is Q3 (some 129) 9 from (u3.1.1.is rfl)) ?_
  rw [(u3.1.1.r (p := 129) (j := 0) (q := 99) rfl)]
  refine mw_go mu_g307 (k := 1) (f1 := (45, [(4, .inl (nI ou)), (3, .inl (0 : Int32)), (2, .inl mk), (0, .inr (.inr (some 129))), (1, .inl (nI k))], [.inr (.inr (mu_r Q3 99 1))], Q3)) (C := [mu_is Q3 (some 99) 13]) rfl (show mu_is Q3 (some 99) 13 from (u3.1.1.is rfl)) ?_
  rw [(u3.1.1.r (p := 99) (j := 1) (q := 100) rfl)]
  refine mw_go mu_g307 (k := 1) (f1 := (46, [(4, .inl (nI ou)), (3, .inl (0 : Int32)), (2, .inl mk), (0, .inr (.inr (some 129))), (1, .inl (nI k))], [.inl mk, .inr (.inr (some 100))], Q3)) (C := []) rfl trivial ?_
  have hK1 : KNV m V3 Y P f od es := hK.q z3 rfl
  have hM1 := (show MCS V3 from ⟨by rw [(show (V3.1 22) = (U.1 22) from (z3.t 22 rfl))]; exact hM.1, by rw [(show (V3.2.2.1 100 3).1 = (U.2.2.1 100 3).1 from (z3.n 100 3 rfl))]; exact hM.2.1, by rw [(show (V3.2.2.1 100 8).1 = (U.2.2.1 100 8).1 from (z3.n 100 8 rfl))]; exact hM.2.2.1, by rw [(show (V3.2.2.1 100 12).1 = (U.2.2.1 100 12).1 from (z3.n 100 12 rfl))]; exact hM.2.2.2.1, by rw [(show (V3.2.2.1 100 13).1 = (U.2.2.1 100 13).1 from (z3.n 100 13 rfl))]; exact hM.2.2.2.2.1, by rw [(show (V3.2.2.1 100 15).1 = (U.2.2.1 100 15).1 from (z3.n 100 15 rfl))]; exact hM.2.2.2.2.2⟩)
  have hl1 : LDW V3 Y P f od a0 N0 i0 := hl.keep (show (V3.1 21) = (U.1 21) from (z3.t 21 rfl)) (show (V3.1 22) = (U.1 22) from (z3.t 22 rfl)) (show (V3.1 15) = (U.1 15) from (z3.t 15 rfl)) (show (V3.2.2.1 100 3) = (U.2.2.1 100 3) from (z3.a 100 3 rfl)) (show (V3.2.1 100 5) = (U.2.1 100 5) from (z3.i 100 5 rfl)) (show (V3.2.1 100 7) = (U.2.1 100 7) from (z3.i 100 7 rfl)) (show (V3.2.1 100 17) = (U.2.1 100 17) from (z3.i 100 17 rfl)) (show (V3.2.1 100 4) = (U.2.1 100 4) from (z3.i 100 4 rfl)) (show (V3.2.2.1 100 8) = (U.2.2.1 100 8) from (z3.a 100 8 rfl)) (show (V3.2.2.1 100 12).1 = (U.2.2.1 100 12).1 from (z3.n 100 12 rfl)) (show (V3.2.2.1 100 13).1 = (U.2.2.1 100 13).1 from (z3.n 100 13 rfl)) (show (V3.2.2.1 100 15).1 = (U.2.2.1 100 15).1 from (z3.n 100 15 rfl)) (show (V3.2.2.1 99 8) = (U.2.2.1 99 8) from (z3.a 99 8 rfl))
  refine mw_cI (fun _ => rfl) (show mu_is Q3 (some 100) 5 from (u3.1.1.is rfl)) (mc_rewindT (d := (d + 2)) (C := C) (T0 := T0) u3 d3 hK1 hM1 hl1 (show (V3.2.1 100 4) = mk from ((z3.i 100 4 rfl).trans hmk)) hT0 (by omega)) (fun x4 Q4 q4 => ?_)
  obtain ⟨W, ⟨w1, w2⟩, rfl, u4, r4, z4, hKr, hMr, hTR0⟩ := q4
  have ht4 : ur m C H Q4 := ht3.trans r4
  obtain ⟨V4, d4⟩ : ∃ V, ud m Q4 = V := ⟨_, rfl⟩
  rw [d4] at z4 hKr hMr hTR0
  have qf4 : uq F307 U V4 := qf3.tr z4 rfl
  obtain ⟨TN, hTN⟩ : ∃ TN, TN = (T0 + W - 1) / W := ⟨_, rfl⟩
  rw [← hTN]
  have hTNb : TN ≤ 17407 := by rw [hTN]; exact Nat.le_trans (Nat.div_le_self _ _) (by omega)
  refine mw_go mu_g307 (k := 5) (f1 := (57, [(7, .inl (0 : Int32)), (6, .inl (0 : Int32)), (5, .inl (nI TN)), (4, .inl (nI ou)), (3, .inl (0 : Int32)), (2, .inl mk), (0, .inr (.inr (some 129))), (1, .inl (nI k))], [], Q4)) (C := []) rfl trivial ?_
  rw [show nI ou = nI (ou + mwz W T0 0) from congrArg nI (by rw [mwz_eq]; omega)]
  show mu_W _ _ (57, [(7, .inl (nI 0)), (6, .inl (nI 0)), (5, .inl (nI TN)), (4, .inl (nI (ou + mwz W T0 0))), (3, .inl (0 : Int32)), (2, .inl mk), (0, .inr (.inr (some 129))), (1, .inl (nI k))], [], Q4) _
  refine mw_sub (L' := [(7, .inl (nI 0)), (6, .inl (nI 0)), (4, .inl (nI (ou + mwz W T0 0))), (0, .inr (.inr (some 129))), (1, .inl (nI k)), (2, .inl mk), (3, .inl (0 : Int32)), (5, .inl (nI TN))]) (by simp) ?_
  refine mw_down (α := Nat × Nat × mu_H) (fun zs => (57, [(7, .inl (nI zs.1)), (6, .inl (nI zs.2.1)), (4, .inl (nI (ou + mwz W T0 zs.1))), (0, .inr (.inr (some 129))), (1, .inl (nI k)), (2, .inl mk), (3, .inl (0 : Int32)), (5, .inl (nI TN))], [], zs.2.2)) (fun zs => TN - zs.1) (fun zs => um m zs.2.2 ∧ ur m C H zs.2.2 ∧ (uq F307a V4 (ud m zs.2.2)) ∧ (zs.1 ≤ TN) ∧ (KNV m (ud m zs.2.2) Y P f od es) ∧ (MCS (ud m zs.2.2)) ∧ (TRN (ud m zs.2.2) Y P f od a0 N0 i0 mk T0 W zs.1) ∧ (∃ bf bt, BZ (ud m zs.2.2) bf bt) ∧ (TBX V3 (ud m zs.2.2) N us S z p (min ((mo + 3) / 4) ((f k + 63) / 64)) ou (min (zs.1 * W) T0) (fun c x => x < f k ∧ CHW Y b (lvl Y (vlz U f mk 0 c) (vlz U f mk 14 c) (evz Y od (vlz U f mk 0 c)) i0) a0 N0 ((U.2.2.1 99 8).2 (sm f 0 k + x)))) ∧ (zs.2.1 ≤ 16384)) (fun zs hza iha => ?_) (0, 0, Q4) ⟨u4, ht4, (show uq F307a V4 (ud m Q4) from by rw [d4]; exact uq.refl _ _), (show 0 ≤ TN from (by omega)), (show KNV m (ud m Q4) Y P f od es from by rw [d4]; exact hKr), (show MCS (ud m Q4) from by rw [d4]; exact hMr), (show TRN (ud m Q4) Y P f od a0 N0 i0 mk T0 W 0 from by rw [d4]; exact hTR0), (show ∃ bf bt, BZ (ud m Q4) bf bt from by rw [d4]; exact (⟨bf, bt, BZ_keep hz (show (V4.2.1 129 19) = (U.2.1 129 19) from ((z4.i 129 19 rfl).trans (z3.i 129 19 rfl))) (show (V4.2.1 129 20) = (U.2.1 129 20) from ((z4.i 129 20 rfl).trans (z3.i 129 20 rfl))) (show (V4.2.2.2.2.1 146) = (U.2.2.2.2.1 146) from ((z4.l 146 rfl).trans (z3.l 146 rfl)))⟩)), (show TBX V3 (ud m Q4) N us S z p (min ((mo + 3) / 4) ((f k + 63) / 64)) ou (min (0 * W) T0) (fun c x => x < f k ∧ CHW Y b (lvl Y (vlz U f mk 0 c) (vlz U f mk 14 c) (evz Y od (vlz U f mk 0 c)) i0) a0 N0 ((U.2.2.1 99 8).2 (sm f 0 k + x))) from by rw [d4]; exact (by rw [Nat.zero_mul, Nat.zero_min]; exact TBX.init (hSO.eq (show (V4.2.1 113 1) = (U.2.1 113 1) from ((z4.i 113 1 rfl).trans (z3.i 113 1 rfl))) (show (V4.2.1 113 2) = (U.2.1 113 2) from ((z4.i 113 2 rfl).trans (z3.i 113 2 rfl))) (show (V4.2.1 113 5) = (U.2.1 113 5) from ((z4.i 113 5 rfl).trans (z3.i 113 5 rfl))) (show (V4.2.2.1 113 3) = (U.2.2.1 113 3) from ((z4.a 113 3 rfl).trans (z3.a 113 3 rfl))) (show (V4.2.2.1 113 4) = (U.2.2.1 113 4) from ((z4.a 113 4 rfl).trans (z3.a 113 4 rfl))) (congrFun ((z4.2.2.2.2.2 rfl).trans (z3.2.2.2.2.2 rfl)) 114)) (fun a c _ => congrFun (congrFun (z4.2.2.2.2.2 rfl) a) c) (fun j => congrFun (congrArg Prod.snd (show (V4.2.2.1 129 4) = (V3.2.2.1 129 4) from (z4.a 129 4 rfl))) j))), (show 0 ≤ 16384 from (by omega))⟩
  obtain ⟨i, mt, Hsa⟩ := zs
  obtain ⟨ua, hta, da, hi, hKa, hMa, hTRa, hBZa, hTBa, hmt⟩ := hza
  have ua : um m Hsa := ua
  have hta : ur m C H Hsa := hta
  have zza : uq F307a V4 (ud m Hsa) := da
  have hi : i ≤ TN := hi
  have hKa : KNV m (ud m Hsa) Y P f od es := hKa
  have hMa : MCS (ud m Hsa) := hMa
  have hTRa : TRN (ud m Hsa) Y P f od a0 N0 i0 mk T0 W i := hTRa
  have hBZa : ∃ bf bt, BZ (ud m Hsa) bf bt := hBZa
  have hTBa : TBX V3 (ud m Hsa) N us S z p (min ((mo + 3) / 4) ((f k + 63) / 64)) ou (min (i * W) T0) (fun c x => x < f k ∧ CHW Y b (lvl Y (vlz U f mk 0 c) (vlz U f mk 14 c) (evz Y od (vlz U f mk 0 c)) i0) a0 N0 ((U.2.2.1 99 8).2 (sm f 0 k + x))) := hTBa
  have hmt : mt ≤ 16384 := hmt
  obtain ⟨Va, da⟩ : ∃ V, ud m Hsa = V := ⟨_, rfl⟩
  rw [da] at zza hKa hMa hTRa hBZa hTBa
  have qfa : uq F307 U Va := qf4.tr zza rfl
  show mu_W _ _ (57, [(7, .inl (nI i)), (6, .inl (nI mt)), (4, .inl (nI (ou + mwz W T0 i))), (0, .inr (.inr (some 129))), (1, .inl (nI k)), (2, .inl mk), (3, .inl (0 : Int32)), (5, .inl (nI TN))], [], Hsa) _
  refine mw_go mu_g307 (k := 2) (f1 := (61, [(7, .inl (nI i)), (6, .inl (nI mt)), (4, .inl (nI (ou + mwz W T0 i))), (0, .inr (.inr (some 129))), (1, .inl (nI k)), (2, .inl mk), (3, .inl (0 : Int32)), (5, .inl (nI TN))], [.inl (nI TN), .inl (nI i)], Hsa)) (C := []) rfl trivial ?_
  refine mw_if (P := (nI i) < (nI TN)) (a := 64) (b := 142) (fun _ => rfl) trivial (fun h5 => ?_) (fun h5 => ?_)
  · -- 64: (nI i) < (nI TN)
    have nh5 : i < TN := (nI_ltI (by omega) (by omega)).mp (show nI i < nI TN from h5)
    have hiW := turns_lt w1 (by rw [← hTN]; exact nh5)
    have hA15 : Va.1 15 = U.1 15 := ((zza.t 15 rfl).trans ((z4.t 15 rfl).trans (z3.t 15 rfl)))
    have hA98 : Va.2.2.1 99 8 = U.2.2.1 99 8 := ((zza.a 99 8 rfl).trans ((z4.a 99 8 rfl).trans (z3.a 99 8 rfl)))
    refine mw_go mu_g307 (k := 2) (f1 := (68, [(7, .inl (nI i)), (6, .inl (nI mt)), (4, .inl (nI (ou + mwz W T0 i))), (0, .inr (.inr (some 129))), (1, .inl (nI k)), (2, .inl mk), (3, .inl (0 : Int32)), (5, .inl (nI TN))], [.inr (.inr (mu_r Hsa 129 0))], Hsa)) (C := [mu_is Hsa (some 129) 9]) rfl (show mu_is Hsa (some 129) 9 from (ua.1.1.is rfl)) ?_
    rw [(ua.1.1.r (p := 129) (j := 0) (q := 99) rfl)]
    refine mw_go mu_g307 (k := 1) (f1 := (71, [(7, .inl (nI i)), (6, .inl (nI mt)), (4, .inl (nI (ou + mwz W T0 i))), (0, .inr (.inr (some 129))), (1, .inl (nI k)), (2, .inl mk), (3, .inl (0 : Int32)), (5, .inl (nI TN))], [.inr (.inr (mu_r Hsa 99 1))], Hsa)) (C := [mu_is Hsa (some 99) 13]) rfl (show mu_is Hsa (some 99) 13 from (ua.1.1.is rfl)) ?_
    rw [(ua.1.1.r (p := 99) (j := 1) (q := 100) rfl)]
    refine mw_cV (fun _ => rfl) (show mu_is Hsa (some 100) 5 from (ua.1.1.is rfl)) (mc_runT (d := (d + 1)) (C := C) ua da hKa hMa hTRa hiW hi0 hr0 hLk hs0 hal) (fun Q6 q6 => ?_)
    obtain ⟨u6, r6, z6, hKu, hMu, hTD, hRS⟩ := q6
    have ht6 : ur m C H Q6 := hta.trans r6
    obtain ⟨V6, d6⟩ : ∃ V, ud m Q6 = V := ⟨_, rfl⟩
    rw [d6] at z6 hKu hMu hTD hRS
    have qf6 : uq F307 U V6 := qfa.tr z6 rfl
    obtain ⟨l, hl⟩ : ∃ l, l = min W (T0 - i * W) := ⟨_, rfl⟩
    have l18 : V6.2.1 100 18 = nI l := by rw [hl]; exact hTD.i18
    rw [← hl] at hRS
    have hlb : 1 ≤ l ∧ l ≤ 1024 ∧ i * W + l ≤ T0 := by omega
    refine mw_go mu_g307 (k := 2) (f1 := (77, [(8, .inl (0 : Int32)), (7, .inl (nI i)), (6, .inl (nI mt)), (4, .inl (nI (ou + mwz W T0 i))), (0, .inr (.inr (some 129))), (1, .inl (nI k)), (2, .inl mk), (3, .inl (0 : Int32)), (5, .inl (nI TN))], [], Q6)) (C := []) rfl trivial ?_
    rw [show nI (ou + mwz W T0 i) = nI (ou + (i * W + 0)) from congrArg nI (by rw [mwz_eq]; omega)]
    show mu_W _ _ (77, [(8, .inl (nI 0)), (7, .inl (nI i)), (6, .inl (nI mt)), (4, .inl (nI (ou + (i * W + 0)))), (0, .inr (.inr (some 129))), (1, .inl (nI k)), (2, .inl mk), (3, .inl (0 : Int32)), (5, .inl (nI TN))], [], Q6) _
    refine mw_sub (L' := [(8, .inl (nI 0)), (6, .inl (nI mt)), (4, .inl (nI (ou + (i * W + 0)))), (0, .inr (.inr (some 129))), (1, .inl (nI k)), (2, .inl mk), (3, .inl (0 : Int32)), (5, .inl (nI TN)), (7, .inl (nI i))]) (by simp) ?_
    refine mw_down (α := Nat × Nat × mu_H) (fun zs => (77, [(8, .inl (nI zs.1)), (6, .inl (nI zs.2.1)), (4, .inl (nI (ou + (i * W + zs.1)))), (0, .inr (.inr (some 129))), (1, .inl (nI k)), (2, .inl mk), (3, .inl (0 : Int32)), (5, .inl (nI TN)), (7, .inl (nI i))], [], zs.2.2)) (fun zs => l - zs.1) (fun zs => um m zs.2.2 ∧ ur m C H zs.2.2 ∧ (uq F307b V6 (ud m zs.2.2)) ∧ (zs.1 ≤ l) ∧ (∃ bf bt, BZ (ud m zs.2.2) bf bt) ∧ (TBX V3 (ud m zs.2.2) N us S z p (min ((mo + 3) / 4) ((f k + 63) / 64)) ou (i * W + zs.1) (fun c x => x < f k ∧ CHW Y b (lvl Y (vlz U f mk 0 c) (vlz U f mk 14 c) (evz Y od (vlz U f mk 0 c)) i0) a0 N0 ((U.2.2.1 99 8).2 (sm f 0 k + x)))) ∧ (zs.2.1 ≤ 16384)) (fun zs hzb ihb => ?_) (0, mt, Q6) ⟨u6, ht6, (show uq F307b V6 (ud m Q6) from by rw [d6]; exact uq.refl _ _), (show 0 ≤ l from (by omega)), (show ∃ bf bt, BZ (ud m Q6) bf bt from by rw [d6]; exact (by obtain ⟨b1, b2, b3⟩ := hBZa; exact ⟨b1, b2, BZ_keep b3 (show (V6.2.1 129 19) = (Va.2.1 129 19) from (z6.i 129 19 rfl)) (show (V6.2.1 129 20) = (Va.2.1 129 20) from (z6.i 129 20 rfl)) (show (V6.2.2.2.2.1 146) = (Va.2.2.2.2.1 146) from (z6.l 146 rfl))⟩)), (show TBX V3 (ud m Q6) N us S z p (min ((mo + 3) / 4) ((f k + 63) / 64)) ou (i * W + 0) (fun c x => x < f k ∧ CHW Y b (lvl Y (vlz U f mk 0 c) (vlz U f mk 14 c) (evz Y od (vlz U f mk 0 c)) i0) a0 N0 ((U.2.2.1 99 8).2 (sm f 0 k + x))) from by rw [d6]; exact (by rw [show i * W + 0 = min (i * W) T0 by omega]; exact hTBa.eq (show (V6.2.1 113 1) = (Va.2.1 113 1) from (z6.i 113 1 rfl)) (show (V6.2.1 113 2) = (Va.2.1 113 2) from (z6.i 113 2 rfl)) (show (V6.2.1 113 5) = (Va.2.1 113 5) from (z6.i 113 5 rfl)) (show (V6.2.2.1 113 3) = (Va.2.2.1 113 3) from (z6.a 113 3 rfl)) (show (V6.2.2.1 113 4) = (Va.2.2.1 113 4) from (z6.a 113 4 rfl)) (show (V6.2.2.1 129 4) = (Va.2.2.1 129 4) from (z6.a 129 4 rfl)) (z6.2.2.2.2.2 rfl))), (show mt ≤ 16384 from (by omega))⟩
    obtain ⟨lane, mu, Hsb⟩ := zs
    obtain ⟨ub, htb, db, hlane, hBZb, hTBb, hmu⟩ := hzb
    have ub : um m Hsb := ub
    have htb : ur m C H Hsb := htb
    have zzb : uq F307b V6 (ud m Hsb) := db
    have hlane : lane ≤ l := hlane
    have hBZb : ∃ bf bt, BZ (ud m Hsb) bf bt := hBZb
    have hTBb : TBX V3 (ud m Hsb) N us S z p (min ((mo + 3) / 4) ((f k + 63) / 64)) ou (i * W + lane) (fun c x => x < f k ∧ CHW Y b (lvl Y (vlz U f mk 0 c) (vlz U f mk 14 c) (evz Y od (vlz U f mk 0 c)) i0) a0 N0 ((U.2.2.1 99 8).2 (sm f 0 k + x))) := hTBb
    have hmu : mu ≤ 16384 := hmu
    obtain ⟨Vb, db⟩ : ∃ V, ud m Hsb = V := ⟨_, rfl⟩
    rw [db] at zzb hBZb hTBb
    have qfb : uq F307 U Vb := qf6.tr zzb rfl
    show mu_W _ _ (77, [(8, .inl (nI lane)), (6, .inl (nI mu)), (4, .inl (nI (ou + (i * W + lane)))), (0, .inr (.inr (some 129))), (1, .inl (nI k)), (2, .inl mk), (3, .inl (0 : Int32)), (5, .inl (nI TN)), (7, .inl (nI i))], [], Hsb) _
    refine mw_go mu_g307 (k := 3) (f1 := (83, [(8, .inl (nI lane)), (6, .inl (nI mu)), (4, .inl (nI (ou + (i * W + lane)))), (0, .inr (.inr (some 129))), (1, .inl (nI k)), (2, .inl mk), (3, .inl (0 : Int32)), (5, .inl (nI TN)), (7, .inl (nI i))], [.inr (.inr (mu_r Hsb 129 0)), .inl (nI lane)], Hsb)) (C := [mu_is Hsb (some 129) 9]) rfl (show mu_is Hsb (some 129) 9 from (ub.1.1.is rfl)) ?_
    rw [(ub.1.1.r (p := 129) (j := 0) (q := 99) rfl)]
    refine mw_go mu_g307 (k := 1) (f1 := (86, [(8, .inl (nI lane)), (6, .inl (nI mu)), (4, .inl (nI (ou + (i * W + lane)))), (0, .inr (.inr (some 129))), (1, .inl (nI k)), (2, .inl mk), (3, .inl (0 : Int32)), (5, .inl (nI TN)), (7, .inl (nI i))], [.inr (.inr (mu_r Hsb 99 1)), .inl (nI lane)], Hsb)) (C := [mu_is Hsb (some 99) 13]) rfl (show mu_is Hsb (some 99) 13 from (ub.1.1.is rfl)) ?_
    rw [(ub.1.1.r (p := 99) (j := 1) (q := 100) rfl)]
    refine mw_go mu_g307 (k := 1) (f1 := (89, [(8, .inl (nI lane)), (6, .inl (nI mu)), (4, .inl (nI (ou + (i * W + lane)))), (0, .inr (.inr (some 129))), (1, .inl (nI k)), (2, .inl mk), (3, .inl (0 : Int32)), (5, .inl (nI TN)), (7, .inl (nI i))], [.inl (mu_i Hsb 100 18), .inl (nI lane)], Hsb)) (C := [mu_is Hsb (some 100) 5]) rfl (show mu_is Hsb (some 100) 5 from (ub.1.1.is rfl)) ?_
    rw [(show mu_i Hsb 100 18 = (nI l) from (ud_i (U := Vb) (m := m) (P := 100) (j := 18) db rfl).trans ((zzb.i 100 18 rfl).trans l18))]
    refine mw_if (P := (nI lane) < (nI l)) (a := 92) (b := 126) (fun _ => rfl) trivial (fun h7 => ?_) (fun h7 => ?_)
    · -- 92: (nI lane) < (nI l)
      have nh7 : lane < l := (nI_ltI (by omega) (by omega)).mp (show nI lane < nI l from h7)
      refine mw_go mu_g307 (k := 3) (f1 := (96, [(8, .inl (nI lane)), (6, .inl (nI mu)), (4, .inl (nI (ou + (i * W + lane)))), (0, .inr (.inr (some 129))), (1, .inl (nI k)), (2, .inl mk), (3, .inl (0 : Int32)), (5, .inl (nI TN)), (7, .inl (nI i))], [.inl (nI lane), .inl (nI k), .inr (.inr (some 129))], Hsb)) (C := []) rfl trivial ?_
      obtain ⟨K, cv, hch, ⟨hKb, hKm⟩, hcv⟩ := chv_anyK (m := m) (lane := lane) hRS (by omega) hK.2.2.2.1.1.2.2.2.2.2.1.2 hr0 hb hmo
      have hch2 : CHV m Vb lane K cv := hch.q ⟨fun j => zzb.i 100 j rfl, fun j => zzb.a 100 j rfl, fun j => zzb.r 100 j rfl⟩
      obtain ⟨bfb, btb, hBb⟩ := hBZb
      have hVb : VDF Vb P f := by unfold VDF; rw [(show (Vb.2.1 99 9) = (U.2.1 99 9) from ((zzb.i 99 9 rfl).trans ((z6.i 99 9 rfl).trans ((zza.i 99 9 rfl).trans ((z4.i 99 9 rfl).trans (z3.i 99 9 rfl)))))), (show (Vb.2.2.1 99 8) = (U.2.2.1 99 8) from ((zzb.a 99 8 rfl).trans ((z6.a 99 8 rfl).trans ((zza.a 99 8 rfl).trans ((z4.a 99 8 rfl).trans (z3.a 99 8 rfl))))))]; exact hV
      have hl10 : (Vb.2.2.1 129 10).1 = (U.2.2.1 129 10).1 := (show (Vb.2.2.1 129 10).1 = (U.2.2.1 129 10).1 from ((zzb.n 129 10 rfl).trans ((z6.n 129 10 rfl).trans ((zza.n 129 10 rfl).trans ((z4.n 129 10 rfl).trans (z3.n 129 10 rfl))))))
      refine mw_cV (fun _ => rfl) (show mu_is Hsb (some 129) 9 from (ub.1.1.is rfl)) (rl_listd (d := (d + 3)) (C := C) (K := K) (cv := cv) (k := k) ub db (spx_keep hK.1 (show (Vb.2.1 99 4) = (U.2.1 99 4) from ((zzb.i 99 4 rfl).trans ((z6.i 99 4 rfl).trans ((zza.i 99 4 rfl).trans ((z4.i 99 4 rfl).trans (z3.i 99 4 rfl)))))) (show (Vb.2.1 99 10) = (U.2.1 99 10) from ((zzb.i 99 10 rfl).trans ((z6.i 99 10 rfl).trans ((zza.i 99 10 rfl).trans ((z4.i 99 10 rfl).trans (z3.i 99 10 rfl)))))) (show (Vb.2.1 99 11) = (U.2.1 99 11) from ((zzb.i 99 11 rfl).trans ((z6.i 99 11 rfl).trans ((zza.i 99 11 rfl).trans ((z4.i 99 11 rfl).trans (z3.i 99 11 rfl)))))) (show (Vb.2.1 99 12) = (U.2.1 99 12) from ((zzb.i 99 12 rfl).trans ((z6.i 99 12 rfl).trans ((zza.i 99 12 rfl).trans ((z4.i 99 12 rfl).trans (z3.i 99 12 rfl)))))) (show (Vb.2.2.1 99 5) = (U.2.2.1 99 5) from ((zzb.a 99 5 rfl).trans ((z6.a 99 5 rfl).trans ((zza.a 99 5 rfl).trans ((z4.a 99 5 rfl).trans (z3.a 99 5 rfl)))))) (show (Vb.2.2.1 99 7) = (U.2.2.1 99 7) from ((zzb.a 99 7 rfl).trans ((z6.a 99 7 rfl).trans ((zza.a 99 7 rfl).trans ((z4.a 99 7 rfl).trans (z3.a 99 7 rfl)))))) (show (Vb.2.2.1 99 6) = (U.2.2.1 99 6) from ((zzb.a 99 6 rfl).trans ((z6.a 99 6 rfl).trans ((zza.a 99 6 rfl).trans ((z4.a 99 6 rfl).trans (z3.a 99 6 rfl)))))) (show (Vb.2.2.1 99 8).1 = (U.2.2.1 99 8).1 from ((zzb.n 99 8 rfl).trans ((z6.n 99 8 rfl).trans ((zza.n 99 8 rfl).trans ((z4.n 99 8 rfl).trans (z3.n 99 8 rfl)))))) (show (Vb.2.2.1 99 18).1 = (U.2.2.1 99 18).1 from ((zzb.n 99 18 rfl).trans ((z6.n 99 18 rfl).trans ((zza.n 99 18 rfl).trans ((z4.n 99 18 rfl).trans (z3.n 99 18 rfl)))))) (show (Vb.2.2.2.1 100 0) = (U.2.2.2.1 100 0) from ((zzb.r 100 0 rfl).trans ((z6.r 100 0 rfl).trans ((zza.r 100 0 rfl).trans ((z4.r 100 0 rfl).trans (z3.r 100 0 rfl)))))) (show (Vb.2.2.2.1 99 0) = (U.2.2.2.1 99 0) from ((zzb.r 99 0 rfl).trans ((z6.r 99 0 rfl).trans ((zza.r 99 0 rfl).trans ((z4.r 99 0 rfl).trans (z3.r 99 0 rfl))))))) hk hVb hBb hch2 hKb (by rw [hl10]; exact hLl) (by rw [hl10]; omega) hfT) (fun Q8 q8 => ?_)
      obtain ⟨u8, r8, z8, hBZn, nn, ls, l11, hls, hlr, hlm⟩ := q8
      have ht8 : ur m C H Q8 := htb.trans r8
      obtain ⟨V8, d8⟩ : ∃ V, ud m Q8 = V := ⟨_, rfl⟩
      rw [d8] at z8 hBZn l11 hls
      have qf8 : uq F307 U V8 := qfb.tr z8 rfl
      have hcvk : ∀ x, CHD Vb f k K cv x ↔ CHW Y b (lvl Y (vlz U f mk 0 (i * W + lane)) (vlz U f mk 14 (i * W + lane)) (evz Y od (vlz U f mk 0 (i * W + lane))) i0) a0 N0 ((U.2.2.1 99 8).2 (sm f 0 k + x)) := fun x => by unfold CHD; rw [show Vb.2.2.1 99 8 = U.2.2.1 99 8 from ((zzb.a 99 8 rfl).trans ((z6.a 99 8 rfl).trans ((zza.a 99 8 rfl).trans ((z4.a 99 8 rfl).trans (z3.a 99 8 rfl)))))]; have y := hcv ((U.2.2.1 99 8).2 (sm f 0 k + x)); rw [vlz_same (U := U) (V := Va) hA15 hA98] at y; rw [vlz_same (U := U) (V := Va) hA15 hA98] at y; exact y
      have hlf : ∀ x, lmz ls nn x = true ↔ x < f k ∧ CHW Y b (lvl Y (vlz U f mk 0 (i * W + lane)) (vlz U f mk 14 (i * W + lane)) (evz Y od (vlz U f mk 0 (i * W + lane))) i0) a0 N0 ((U.2.2.1 99 8).2 (sm f 0 k + x)) := fun x => (hlm x).trans (and_congr_right (fun _ => hcvk x))
      have hlt : ∀ i, i < nn → ls i < f k := fun i hi => ((hlm (ls i)).mp (lmz_in hi)).1
      have hnn : nn ≤ f k := by by_cases h0 : nn = 0; (rw [h0]; exact Nat.zero_le _); (have y1 := rise_le hlr (nn - 1) (by omega); have y2 := hlt (nn - 1) (by omega); omega)
      have hnK : nn ≤ K := list_le hlr (fun i hi => by obtain ⟨y1, j, y2, y3⟩ := (hlm (ls i)).mp (lmz_in hi); exact ⟨j, y2, y3⟩) (fun a c ha hc y => hVb.2 k hk a c ha hc y) hlt
      have hnS : nn ≤ max 1 mo := Nat.le_trans hnK hKm
      have hlb2 : ∀ i, i < nn → ls i < 16384 := fun i hi => by have y := hlt i hi; omega
      refine mw_go mu_g307 (k := 3) (f1 := (103, [(8, .inl (nI lane)), (6, .inl (nI mu)), (4, .inl (nI (ou + (i * W + lane)))), (0, .inr (.inr (some 129))), (1, .inl (nI k)), (2, .inl mk), (3, .inl (0 : Int32)), (5, .inl (nI TN)), (7, .inl (nI i))], [.inl (0 : Int32), .inl (nI (ou + (i * W + lane))), .inr (.inr (some 129))], Q8)) (C := []) rfl trivial ?_
      obtain ⟨hTp, hTo, N1, us1, S1, z1, p1, oid, hSk, hNb, hNS, hUb, hcl⟩ := hTBb
      have hSv : SOK V8 N1 us1 S1 z1 p1 := hSk.eq (show (V8.2.1 113 1) = (Vb.2.1 113 1) from (z8.i 113 1 rfl)) (show (V8.2.1 113 2) = (Vb.2.1 113 2) from (z8.i 113 2 rfl)) (show (V8.2.1 113 5) = (Vb.2.1 113 5) from (z8.i 113 5 rfl)) (show (V8.2.2.1 113 3) = (Vb.2.2.1 113 3) from (z8.a 113 3 rfl)) (show (V8.2.2.1 113 4) = (Vb.2.2.1 113 4) from (z8.a 113 4 rfl)) (congrFun (z8.2.2.2.2.2 rfl) 114)
      have hn10 : (V8.2.2.1 129 10).1 = (U.2.2.1 129 10).1 := ((z8.n 129 10 rfl).trans ((zzb.n 129 10 rfl).trans ((z6.n 129 10 rfl).trans ((zza.n 129 10 rfl).trans ((z4.n 129 10 rfl).trans (z3.n 129 10 rfl))))))
      have hn4 : (V8.2.2.1 129 4).1 = (V3.2.2.1 129 4).1 := ((z8.n 129 4 rfl).trans ((zzb.n 129 4 rfl).trans ((z6.n 129 4 rfl).trans ((zza.n 129 4 rfl).trans (z4.n 129 4 rfl)))))
      have hcost : (i * W + lane) * ((min ((mo + 3) / 4) ((f k + 63) / 64)) + 1) ≤ pm mk f P * ((min ((mo + 3) / 4) ((f k + 63) / 64)) + 1) := Nat.mul_le_mul_right _ (by omega)
      have hub1 := hSk.1.2.1
      refine mw_cV (fun _ => rfl) (show mu_is Q8 (some 129) 9 from (u8.1.1.is rfl)) (rl_write0 (d := (d + 2)) (C := C) (n := nn) (ls := ls) (c := ou + (i * W + lane)) u8 d8 l11 hls (by rw [hn10]; omega) (by rw [hn10]; omega) hlb2 hlr hSv (by omega) (by rw [hn4]; omega) (by rw [hn4]; omega)) (fun Q9 q9 => ?_)
      obtain ⟨u9, r9, z9, id, lw, gg, W2, W3, hqw, hw11, hgg, hgr, hgm, hAD, hdw⟩ := q9
      have ht9 : ur m C H Q9 := ht8.trans r9
      obtain ⟨V9, d9⟩ : ∃ V, ud m Q9 = V := ⟨_, rfl⟩
      rw [d9] at z9 hdw
      have qf9 : uq F307 U V9 := qf8.tr z9 rfl
      have hlw : V9.2.1 129 11 = nI lw := by rw [hdw]; exact (show W3.2.1 129 11 = W2.2.1 129 11 from hAD.1.i 129 11 rfl).trans hw11
      have hglt : ∀ j, j < lw → gg j < f k := fun j hj => by obtain ⟨q, q1, q2⟩ := (lmz_iff nn).mp ((hgm (gg j)).mp (lmz_in hj)).1; rw [← q2]; exact hlt q q1
      have hgn : lw ≤ nn := by exact sub_le hgr hlr (fun j hj => (lmz_iff nn).mp ((hgm (gg j)).mp (lmz_in hj)).1)
      refine mw_go mu_g307 (k := 3) (f1 := (112, [(8, .inl (nI lane)), (6, .inl (nI mu)), (4, .inl (nI (ou + (i * W + lane)))), (0, .inr (.inr (some 129))), (1, .inl (nI k)), (2, .inl mk), (3, .inl (0 : Int32)), (5, .inl (nI TN)), (7, .inl (nI i))], [.inl (mu_i Q9 129 11), .inl (nI mu)], Q9)) (C := [mu_is Q9 (some 129) 9]) rfl (show mu_is Q9 (some 129) 9 from (u9.1.1.is rfl)) ?_
      rw [(show mu_i Q9 129 11 = (nI lw) from (ud_i (U := V9) (m := m) (P := 129) (j := 11) d9 rfl).trans hlw)]
      refine mw_cIe (fun _ => rfl) trivial (mu_max_ok (d := (d + 6)) (nI mu) (nI lw)) ?_
      rw [show (mu_max (nI mu) (nI lw)) = nI (max mu lw) from mu_max_n (a := mu) (b := lw) (by omega) (by omega)]
      refine mw_go mu_g307 (k := 2) (f1 := (120, [(4, .inl ((nI (ou + (i * W + lane))) + 1)), (6, .inl (nI (max mu lw))), (8, .inl (nI lane)), (0, .inr (.inr (some 129))), (1, .inl (nI k)), (2, .inl mk), (3, .inl (0 : Int32)), (5, .inl (nI TN)), (7, .inl (nI i))], [], Q9)) (C := []) rfl trivial ?_
      rw [(show ((nI (ou + (i * W + lane))) + 1) = (nI ((ou + (i * W + lane)) + 1)) from (nI_add (ou + (i * W + lane)) 1))]
      refine mw_go mu_g307 (k := 1) (f1 := (123, [(8, .inl ((nI lane) + 1)), (4, .inl (nI ((ou + (i * W + lane)) + 1))), (6, .inl (nI (max mu lw))), (0, .inr (.inr (some 129))), (1, .inl (nI k)), (2, .inl mk), (3, .inl (0 : Int32)), (5, .inl (nI TN)), (7, .inl (nI i))], [], Q9)) (C := []) rfl trivial ?_
      rw [(show ((nI lane) + 1) = (nI (lane + 1)) from (nI_add lane 1))]
      refine mw_go mu_g307 (k := 1) (f1 := (77, [(8, .inl (nI (lane + 1))), (4, .inl (nI ((ou + (i * W + lane)) + 1))), (6, .inl (nI (max mu lw))), (0, .inr (.inr (some 129))), (1, .inl (nI k)), (2, .inl mk), (3, .inl (0 : Int32)), (5, .inl (nI TN)), (7, .inl (nI i))], [], Q9)) (C := []) rfl trivial ?_
      show mu_W _ _ (77, [(8, .inl (nI (lane + 1))), (4, .inl (nI (ou + (i * W + (lane + 1))))), (6, .inl (nI (max mu lw))), (0, .inr (.inr (some 129))), (1, .inl (nI k)), (2, .inl mk), (3, .inl (0 : Int32)), (5, .inl (nI TN)), (7, .inl (nI i))], [], Q9) _
      exact mw_sub (by simp) (ihb (lane + 1, max mu lw, Q9) ⟨u9, ht9, (show uq F307b V6 (ud m Q9) from by rw [d9]; exact ((zzb.tr z8 rfl).tr z9 rfl)), (show (lane + 1) ≤ l from (by omega)), (show ∃ bf bt, BZ (ud m Q9) bf bt from by rw [d9]; exact (by obtain ⟨b1, b2, b3⟩ := hBZn; exact ⟨b1, b2, BZ_keep b3 (show (V9.2.1 129 19) = (V8.2.1 129 19) from (z9.i 129 19 rfl)) (show (V9.2.1 129 20) = (V8.2.1 129 20) from (z9.i 129 20 rfl)) (show (V9.2.2.2.2.1 146) = (V8.2.2.2.2.1 146) from (z9.l 146 rfl))⟩)), (show TBX V3 (ud m Q9) N us S z p (min ((mo + 3) / 4) ((f k + 63) / 64)) ou (i * W + (lane + 1)) (fun c x => x < f k ∧ CHW Y b (lvl Y (vlz U f mk 0 c) (vlz U f mk 14 c) (evz Y od (vlz U f mk 0 c)) i0) a0 N0 ((U.2.2.1 99 8).2 (sm f 0 k + x))) from by rw [d9]; exact (by rw [hdw]; exact TBX.step (ls := gg) (nn := lw) (id := id) (V1 := W2) hTp hTo hNb hNS hUb hcl ((hqw.2.2.2.2.2 rfl).trans (z8.2.2.2.2.2 rfl)) ((hqw.a 129 4 rfl).trans (show (V8.2.2.1 129 4) = (Vb.2.2.1 129 4) from (z8.a 129 4 rfl))) hAD (fun ln y1 y2 => by by_cases h0 : lw = 0; (omega); (have y3 := y2 (by omega); have y4 := hglt (lw - 1) (by omega); omega)) (by omega) (fun x => (hgm x).trans ⟨fun y => (hlf x).mp y.1, fun y => ⟨(hlf x).mpr y, trivial⟩⟩))), (show (max mu lw) ≤ 16384 from (by omega))⟩ (by show l - (lane + 1) < l - lane; omega))
    · -- 126: not (nI lane) < (nI l)
      have nh7 : ¬ lane < l := fun z => h7 (show nI lane < nI l from (nI_ltI (by omega) (by omega)).mpr z)
      refine mw_go mu_g307 (k := 2) (f1 := (130, [(8, .inl (nI lane)), (6, .inl (nI mu)), (4, .inl (nI (ou + (i * W + lane)))), (0, .inr (.inr (some 129))), (1, .inl (nI k)), (2, .inl mk), (3, .inl (0 : Int32)), (5, .inl (nI TN)), (7, .inl (nI i))], [.inr (.inr (mu_r Hsb 129 0))], Hsb)) (C := [mu_is Hsb (some 129) 9]) rfl (show mu_is Hsb (some 129) 9 from (ub.1.1.is rfl)) ?_
      rw [(ub.1.1.r (p := 129) (j := 0) (q := 99) rfl)]
      refine mw_go mu_g307 (k := 1) (f1 := (133, [(8, .inl (nI lane)), (6, .inl (nI mu)), (4, .inl (nI (ou + (i * W + lane)))), (0, .inr (.inr (some 129))), (1, .inl (nI k)), (2, .inl mk), (3, .inl (0 : Int32)), (5, .inl (nI TN)), (7, .inl (nI i))], [.inr (.inr (mu_r Hsb 99 1))], Hsb)) (C := [mu_is Hsb (some 99) 13]) rfl (show mu_is Hsb (some 99) 13 from (ub.1.1.is rfl)) ?_
      rw [(ub.1.1.r (p := 99) (j := 1) (q := 100) rfl)]
      have hTDt : TRD Vb Y P f od a0 N0 i0 mk T0 W i := hTD.keep (show (Vb.1 21) = (V6.1 21) from (zzb.t 21 rfl)) (show (Vb.1 22) = (V6.1 22) from (zzb.t 22 rfl)) (show (Vb.1 15) = (V6.1 15) from (zzb.t 15 rfl)) (show (Vb.2.2.1 100 3) = (V6.2.2.1 100 3) from (zzb.a 100 3 rfl)) (show (Vb.2.1 100 5) = (V6.2.1 100 5) from (zzb.i 100 5 rfl)) (show (Vb.2.1 100 7) = (V6.2.1 100 7) from (zzb.i 100 7 rfl)) (show (Vb.2.1 100 17) = (V6.2.1 100 17) from (zzb.i 100 17 rfl)) (show (Vb.2.1 100 4) = (V6.2.1 100 4) from (zzb.i 100 4 rfl)) (show (Vb.2.1 100 18) = (V6.2.1 100 18) from (zzb.i 100 18 rfl)) (show (Vb.2.1 100 19) = (V6.2.1 100 19) from (zzb.i 100 19 rfl)) (show (Vb.2.1 100 20) = (V6.2.1 100 20) from (zzb.i 100 20 rfl)) (show (Vb.2.2.1 100 8) = (V6.2.2.1 100 8) from (zzb.a 100 8 rfl)) (show (Vb.2.2.1 100 12).1 = (V6.2.2.1 100 12).1 from (zzb.n 100 12 rfl)) (show (Vb.2.2.1 100 13).1 = (V6.2.2.1 100 13).1 from (zzb.n 100 13 rfl)) (show (Vb.2.2.1 100 15).1 = (V6.2.2.1 100 15).1 from (zzb.n 100 15 rfl)) (show (Vb.2.2.1 99 8) = (V6.2.2.1 99 8) from (zzb.a 99 8 rfl))
      have hMt := (show MCS Vb from ⟨by rw [(show (Vb.1 22) = (V6.1 22) from (zzb.t 22 rfl))]; exact hMu.1, by rw [(show (Vb.2.2.1 100 3).1 = (V6.2.2.1 100 3).1 from (zzb.n 100 3 rfl))]; exact hMu.2.1, by rw [(show (Vb.2.2.1 100 8).1 = (V6.2.2.1 100 8).1 from (zzb.n 100 8 rfl))]; exact hMu.2.2.1, by rw [(show (Vb.2.2.1 100 12).1 = (V6.2.2.1 100 12).1 from (zzb.n 100 12 rfl))]; exact hMu.2.2.2.1, by rw [(show (Vb.2.2.1 100 13).1 = (V6.2.2.1 100 13).1 from (zzb.n 100 13 rfl))]; exact hMu.2.2.2.2.1, by rw [(show (Vb.2.2.1 100 15).1 = (V6.2.2.1 100 15).1 from (zzb.n 100 15 rfl))]; exact hMu.2.2.2.2.2⟩)
      have hKt : KNV m Vb Y P f od es := hKu.q zzb rfl
      refine mw_cV (fun _ => rfl) (show mu_is Hsb (some 100) 5 from (ub.1.1.is rfl)) (mc_turnT (d := (d + 2)) (C := C) ub db hKt hMt hTDt hiW (by omega)) (fun Q11 q11 => ?_)
      obtain ⟨u11, r11, z11, hKn, hMn, hTRn⟩ := q11
      have ht11 : ur m C H Q11 := htb.trans r11
      obtain ⟨V11, d11⟩ : ∃ V, ud m Q11 = V := ⟨_, rfl⟩
      rw [d11] at z11 hKn hMn hTRn
      have qf11 : uq F307 U V11 := qfb.tr z11 rfl
      have hsm : (i + 1) * W = i * W + W := Nat.succ_mul i W
      rw [show nI (ou + (i * W + lane)) = nI (ou + mwz W T0 (i + 1)) from congrArg nI (by rw [mwz_eq]; omega)]
      refine mw_go mu_g307 (k := 1) (f1 := (139, [(7, .inl ((nI i) + 1)), (8, .inl (nI lane)), (6, .inl (nI mu)), (4, .inl (nI (ou + mwz W T0 (i + 1)))), (0, .inr (.inr (some 129))), (1, .inl (nI k)), (2, .inl mk), (3, .inl (0 : Int32)), (5, .inl (nI TN))], [], Q11)) (C := []) rfl trivial ?_
      rw [(show ((nI i) + 1) = (nI (i + 1)) from (nI_add i 1))]
      refine mw_go mu_g307 (k := 1) (f1 := (57, [(7, .inl (nI (i + 1))), (8, .inl (nI lane)), (6, .inl (nI mu)), (4, .inl (nI (ou + mwz W T0 (i + 1)))), (0, .inr (.inr (some 129))), (1, .inl (nI k)), (2, .inl mk), (3, .inl (0 : Int32)), (5, .inl (nI TN))], [], Q11)) (C := []) rfl trivial ?_
      exact mw_sub (by simp) (iha (i + 1, mu, Q11) ⟨u11, ht11, (show uq F307a V4 (ud m Q11) from by rw [d11]; exact (((zza.tr z6 rfl).tr zzb rfl).tr z11 rfl)), (show (i + 1) ≤ TN from (by omega)), (show KNV m (ud m Q11) Y P f od es from by rw [d11]; exact hKn), (show MCS (ud m Q11) from by rw [d11]; exact hMn), (show TRN (ud m Q11) Y P f od a0 N0 i0 mk T0 W (i + 1) from by rw [d11]; exact hTRn), (show ∃ bf bt, BZ (ud m Q11) bf bt from by rw [d11]; exact (by obtain ⟨b1, b2, b3⟩ := hBZb; exact ⟨b1, b2, BZ_keep b3 (show (V11.2.1 129 19) = (Vb.2.1 129 19) from (z11.i 129 19 rfl)) (show (V11.2.1 129 20) = (Vb.2.1 129 20) from (z11.i 129 20 rfl)) (show (V11.2.2.2.2.1 146) = (Vb.2.2.2.2.1 146) from (z11.l 146 rfl))⟩)), (show TBX V3 (ud m Q11) N us S z p (min ((mo + 3) / 4) ((f k + 63) / 64)) ou (min ((i + 1) * W) T0) (fun c x => x < f k ∧ CHW Y b (lvl Y (vlz U f mk 0 c) (vlz U f mk 14 c) (evz Y od (vlz U f mk 0 c)) i0) a0 N0 ((U.2.2.1 99 8).2 (sm f 0 k + x))) from by rw [d11]; exact (by rw [show min ((i + 1) * W) T0 = i * W + lane by omega]; exact hTBb.eq (show (V11.2.1 113 1) = (Vb.2.1 113 1) from (z11.i 113 1 rfl)) (show (V11.2.1 113 2) = (Vb.2.1 113 2) from (z11.i 113 2 rfl)) (show (V11.2.1 113 5) = (Vb.2.1 113 5) from (z11.i 113 5 rfl)) (show (V11.2.2.1 113 3) = (Vb.2.2.1 113 3) from (z11.a 113 3 rfl)) (show (V11.2.2.1 113 4) = (Vb.2.2.1 113 4) from (z11.a 113 4 rfl)) (show (V11.2.2.1 129 4) = (Vb.2.2.1 129 4) from (z11.a 129 4 rfl)) (z11.2.2.2.2.2 rfl))), (show mu ≤ 16384 from (by omega))⟩ (by show TN - (i + 1) < TN - i; omega))
  · -- 142: not (nI i) < (nI TN)
    have nh5 : ¬ i < TN := fun z => h5 (show nI i < nI TN from (nI_ltI (by omega) (by omega)).mpr z)
    have hge : T0 ≤ i * W := turns_ge w1 (by rw [← hTN]; exact nh5)
    refine mw_go mu_g307 (k := 2) (f1 := (146, [(7, .inl (nI i)), (6, .inl (nI mt)), (4, .inl (nI (ou + mwz W T0 i))), (0, .inr (.inr (some 129))), (1, .inl (nI k)), (2, .inl mk), (3, .inl (0 : Int32)), (5, .inl (nI TN))], [.inr (.inr (mu_r Hsa 129 14))], Hsa)) (C := [mu_is Hsa (some 129) 9]) rfl (show mu_is Hsa (some 129) 9 from (ua.1.1.is rfl)) ?_
    rw [(ua.1.1.r (p := 129) (j := 14) (q := 142) rfl)]
    refine mw_go mu_g307 (k := 3) (f1 := (151, [(7, .inl (nI i)), (6, .inl (nI mt)), (4, .inl (nI (ou + mwz W T0 i))), (0, .inr (.inr (some 129))), (1, .inl (nI k)), (2, .inl mk), (3, .inl (0 : Int32)), (5, .inl (nI TN))], [.inr (.inr (mu_r Hsa 129 14)), .inl (nI k), .inr (.inr (some 142))], Hsa)) (C := [mu_is Hsa (some 129) 9]) rfl (show mu_is Hsa (some 129) 9 from (ua.1.1.is rfl)) ?_
    rw [(ua.1.1.r (p := 129) (j := 14) (q := 142) rfl)]
    refine mw_go mu_g307 (k := 2) (f1 := (153, [(7, .inl (nI i)), (6, .inl (nI mt)), (4, .inl (nI (ou + mwz W T0 i))), (0, .inr (.inr (some 129))), (1, .inl (nI k)), (2, .inl mk), (3, .inl (0 : Int32)), (5, .inl (nI TN))], [.inl (mu_i Hsa 142 (nI k).toNatClampNeg), .inl (nI k), .inr (.inr (some 142))], Hsa)) (C := [mu_isr Hsa (some 142) 100, vp_in (nI k) (mu_n Hsa 142)]) rfl (show (mu_isr Hsa (some 142) 100) ∧ (vp_in (nI k) (mu_n Hsa 142)) from ⟨((ua.iA da rfl rfl ((ud_q (m := m) (P := 129) (j := 14) da rfl).symm.trans (ua.1.1.r (p := 129) (j := 14) (q := 142) rfl)))).r, (by rw [show mu_n Hsa 142 = 28 from (ua.1.1.a (p := 142) (x := (100, 28)) rfl).2]; exact vp_in_nI (n := k) (by omega) (by decide))⟩) ?_
    obtain ⟨y12, hy12⟩ : ∃ y, y = (mu_i Hsa 142 (nI k).toNatClampNeg) := ⟨_, rfl⟩
    rw [← hy12]
    refine mw_go mu_g307 (k := 1) (f1 := (155, [(7, .inl (nI i)), (6, .inl (nI mt)), (4, .inl (nI (ou + mwz W T0 i))), (0, .inr (.inr (some 129))), (1, .inl (nI k)), (2, .inl mk), (3, .inl (0 : Int32)), (5, .inl (nI TN))], [.inl (nI mt), .inl y12, .inl (nI k), .inr (.inr (some 142))], Hsa)) (C := []) rfl trivial ?_
    refine mw_cIe (fun _ => rfl) trivial (mu_min_ok (d := (d + 6)) y12 (nI mt)) ?_
    refine mw_go mu_g307 (k := 1) (f1 := (159, [(7, .inl (nI i)), (6, .inl (nI mt)), (4, .inl (nI (ou + mwz W T0 i))), (0, .inr (.inr (some 129))), (1, .inl (nI k)), (2, .inl mk), (3, .inl (0 : Int32)), (5, .inl (nI TN))], [], (mu_si Hsa 142 (nI k).toNatClampNeg (mu_min y12 (nI mt))))) (C := [mu_is Hsa (some 142) 100, vp_in (nI k) (mu_n Hsa 142)]) rfl (show (mu_is Hsa (some 142) 100) ∧ (vp_in (nI k) (mu_n Hsa 142)) from ⟨(ua.iA da rfl rfl ((ud_q (m := m) (P := 129) (j := 14) da rfl).symm.trans (ua.1.1.r (p := 129) (j := 14) (q := 142) rfl))), (by rw [show mu_n Hsa 142 = 28 from (ua.1.1.a (p := 142) (x := (100, 28)) rfl).2]; exact vp_in_nI (n := k) (by omega) (by decide))⟩) ?_
    rw [(show (nI k).toNatClampNeg = k from nI_clamp (by omega))]
    obtain ⟨u14, r14, d14⟩ : um m (mu_si Hsa 142 k (mu_min y12 (nI mt))) ∧ ur m C Hsa (mu_si Hsa 142 k (mu_min y12 (nI mt))) ∧ ud m (mu_si Hsa 142 k (mu_min y12 (nI mt))) = (upA Va 129 14 k (mu_min y12 (nI mt))) := ua.sA (C := C) da rfl rfl ((ud_q (m := m) (P := 129) (j := 14) da rfl).symm.trans (ua.1.1.r (p := 129) (j := 14) (q := 142) rfl))
    generalize (mu_si Hsa 142 k (mu_min y12 (nI mt))) = Q14 at u14 r14 d14 ⊢
    have qf14 : uq F307 U (upA Va 129 14 k (mu_min y12 (nI mt))) := qfa.A rfl
    have ht14 : ur m C H Q14 := hta.trans r14
    have hKe : KNV m (upA Va 129 14 k (mu_min y12 (nI mt))) Y P f od es := hK.q qf14 rfl
    have hMe := (show MCS (upA Va 129 14 k (mu_min y12 (nI mt))) from ⟨by rw [(show ((upA Va 129 14 k (mu_min y12 (nI mt))).1 22) = (Va.1 22) from rfl)]; exact hMa.1, by rw [(show ((upA Va 129 14 k (mu_min y12 (nI mt))).2.2.1 100 3).1 = (Va.2.2.1 100 3).1 from rfl)]; exact hMa.2.1, by rw [(show ((upA Va 129 14 k (mu_min y12 (nI mt))).2.2.1 100 8).1 = (Va.2.2.1 100 8).1 from rfl)]; exact hMa.2.2.1, by rw [(show ((upA Va 129 14 k (mu_min y12 (nI mt))).2.2.1 100 12).1 = (Va.2.2.1 100 12).1 from rfl)]; exact hMa.2.2.2.1, by rw [(show ((upA Va 129 14 k (mu_min y12 (nI mt))).2.2.1 100 13).1 = (Va.2.2.1 100 13).1 from rfl)]; exact hMa.2.2.2.2.1, by rw [(show ((upA Va 129 14 k (mu_min y12 (nI mt))).2.2.1 100 15).1 = (Va.2.2.1 100 15).1 from rfl)]; exact hMa.2.2.2.2.2⟩)
    have hle : LDW (upA Va 129 14 k (mu_min y12 (nI mt))) Y P f od a0 N0 i0 := (hTRa.ldw hK.2.1).keep (show ((upA Va 129 14 k (mu_min y12 (nI mt))).1 21) = (Va.1 21) from rfl) (show ((upA Va 129 14 k (mu_min y12 (nI mt))).1 22) = (Va.1 22) from rfl) (show ((upA Va 129 14 k (mu_min y12 (nI mt))).1 15) = (Va.1 15) from rfl) (show ((upA Va 129 14 k (mu_min y12 (nI mt))).2.2.1 100 3) = (Va.2.2.1 100 3) from rfl) (show ((upA Va 129 14 k (mu_min y12 (nI mt))).2.1 100 5) = (Va.2.1 100 5) from rfl) (show ((upA Va 129 14 k (mu_min y12 (nI mt))).2.1 100 7) = (Va.2.1 100 7) from rfl) (show ((upA Va 129 14 k (mu_min y12 (nI mt))).2.1 100 17) = (Va.2.1 100 17) from rfl) (show ((upA Va 129 14 k (mu_min y12 (nI mt))).2.1 100 4) = (Va.2.1 100 4) from rfl) (show ((upA Va 129 14 k (mu_min y12 (nI mt))).2.2.1 100 8) = (Va.2.2.1 100 8) from rfl) (show ((upA Va 129 14 k (mu_min y12 (nI mt))).2.2.1 100 12).1 = (Va.2.2.1 100 12).1 from rfl) (show ((upA Va 129 14 k (mu_min y12 (nI mt))).2.2.1 100 13).1 = (Va.2.2.1 100 13).1 from rfl) (show ((upA Va 129 14 k (mu_min y12 (nI mt))).2.2.1 100 15).1 = (Va.2.2.1 100 15).1 from rfl) (show ((upA Va 129 14 k (mu_min y12 (nI mt))).2.2.1 99 8) = (Va.2.2.1 99 8) from rfl)
    have hze : ∃ bf bt, BZ (upA Va 129 14 k (mu_min y12 (nI mt))) bf bt := by obtain ⟨b1, b2, b3⟩ := hBZa; exact ⟨b1, b2, BZ_keep b3 (show ((upA Va 129 14 k (mu_min y12 (nI mt))).2.1 129 19) = (Va.2.1 129 19) from rfl) (show ((upA Va 129 14 k (mu_min y12 (nI mt))).2.1 129 20) = (Va.2.1 129 20) from rfl) (show ((upA Va 129 14 k (mu_min y12 (nI mt))).2.2.2.2.1 146) = (Va.2.2.2.2.1 146) from rfl)⟩
    rw [show min (i * W) T0 = pm mk f P by omega] at hTBa
    have hTe := hTBa.eq (V1 := (upA Va 129 14 k (mu_min y12 (nI mt)))) (show ((upA Va 129 14 k (mu_min y12 (nI mt))).2.1 113 1) = (Va.2.1 113 1) from rfl) (show ((upA Va 129 14 k (mu_min y12 (nI mt))).2.1 113 2) = (Va.2.1 113 2) from rfl) (show ((upA Va 129 14 k (mu_min y12 (nI mt))).2.1 113 5) = (Va.2.1 113 5) from rfl) (show ((upA Va 129 14 k (mu_min y12 (nI mt))).2.2.1 113 3) = (Va.2.2.1 113 3) from rfl) (show ((upA Va 129 14 k (mu_min y12 (nI mt))).2.2.1 113 4) = (Va.2.2.1 113 4) from rfl) (show ((upA Va 129 14 k (mu_min y12 (nI mt))).2.2.1 129 4) = (Va.2.2.1 129 4) from rfl) rfl
    refine mw_of (fun _ => mu_ret rfl trivial ⟨Q14, rfl, u14, ht14, (by rw [d14]; exact qf14), ?_⟩)
    rw [d14]
    exact ⟨hKe, hMe, hle, hze, ⟨V3, (fun a c => congrFun (congrFun ((show V3.2.2.2.2.2 = U.2.2.2.2.2 from z3.2.2.2.2.2 rfl)) a) c), oold, hTe⟩, ⟨((show ((upA Va 129 14 k (mu_min y12 (nI mt))).2.1 129 5) = (V3.2.1 129 5) from ((zza.i 129 5 rfl).trans (z4.i 129 5 rfl)))).trans o5, by rw [(show ((upA Va 129 14 k (mu_min y12 (nI mt))).2.2.1 129 4).1 = (V3.2.2.1 129 4).1 from ((zza.n 129 4 rfl).trans (z4.n 129 4 rfl)))]; exact oln, by rw [(show ((upA Va 129 14 k (mu_min y12 (nI mt))).2.2.1 129 4).1 = (V3.2.2.1 129 4).1 from ((zza.n 129 4 rfl).trans (z4.n 129 4 rfl)))]; exact oOL⟩, ((show ((upA Va 129 14 k (mu_min y12 (nI mt))).1 24) = (V3.1 24) from ((zza.t 24 rfl).trans (z4.t 24 rfl)))).trans o24⟩

theorem rl_tab1 (h : um m H) (e : ud m H = U) (hK : KNV m U Y P f od es) (hM : MCS U) (hl : LDW U Y P f od a0 N0 i0) (hi0 : i0 < (Y 11).1) (hr0 : rgs Y (im Y i0) Lk a0 (a0 + N0)) (hLk : 1 ≤ Lk.length) (hb : (b = true → Lk = [true]) ∧ (b = false → ¬ true ∈ Lk)) (hs0 : SRT Y es i0 al a0 rs N0) (hal : ¬ al = 2) (hmk : U.2.1 100 4 = mk) (hnx : ¬ NXW Y (U.1 15) P a0 N0 i0) (hmo : CHK Y b a0 N0 mo) (hmo1 : 1 ≤ mo) (hk : k < P) (hV : VDF U P f) (hz : BZ U bf bt) (hSO : SOK U N us S z p) (hF : FMS U nf nm tm nb bo) (hbs : ∀ q, q < nf → (U.1 24).2 q 2 = nI (bs q)) (hou : U.2.1 129 5 = nI ou) (hol : ou ≤ (U.2.2.1 129 4).1) (hOL : OLN (U.2.2.1 129 4).1) (hN : N + pm mk f P ≤ 500000) (hX : us + pm mk f P * ((min ((mo + 3) / 4) ((f k + 63) / 64)) + 1) ≤ 1400000) (hLl : pd f 0 P + 4 ≤ (U.2.2.1 129 10).1) (hLlb : (U.2.2.1 129 10).1 ≤ 16777216) (hC1 : 2 * ((nf + 1) * 6) + 6 ≤ C 24) (hC2 : C 24 ≤ 8388608) {qk bq : Nat} {oq : Nat → Nat} (hqk : KNF nf nm tm (bo (nb - 1) 0) mk ((1 : Int32) <<< (nI k &&& 31)) qk) (hun : ∀ q q2, KNF nf nm tm (bo (nb - 1) 0) mk ((1 : Int32) <<< (nI k &&& 31)) q → KNF nf nm tm (bo (nb - 1) 0) mk ((1 : Int32) <<< (nI k &&& 31)) q2 → q = q2) (hbq : bs qk = bq) (hbl : bq + pm mk f P ≤ (U.2.2.1 129 4).1) (hold : ∀ c, c < pm mk f P → (U.2.2.1 129 4).2 (bq + c) = nI (oq c) ∧ oq c < N ∧ p (oq c) = true) : mu_TV (mu_D (d + 8)) 307 [.inr (.inr (some 129)), .inl (nI k)] H (fun H1 => um m H1 ∧ ur m C H H1 ∧ uq F307 U (ud m H1) ∧ KNV m (ud m H1) Y P f od es ∧ MCS (ud m H1) ∧ LDW (ud m H1) Y P f od a0 N0 i0 ∧ (∃ bf bt, BZ (ud m H1) bf bt) ∧ TBX U (ud m H1) N us S z p (min ((mo + 3) / 4) ((f k + 63) / 64)) bq (pm mk f P) (fun c x => S (oq c) x = true ∧ x < f k ∧ CHW Y b (lvl Y (vlz U f mk 0 c) (vlz U f mk 14 c) (evz Y od (vlz U f mk 0 c)) i0) a0 N0 ((U.2.2.1 99 8).2 (sm f 0 k + x))) ∧ (ud m H1).2.1 129 5 = U.2.1 129 5 ∧ ((ud m H1).2.2.1 129 4).1 = (U.2.2.1 129 4).1 ∧ (ud m H1).1 24 = U.1 24) := by
  obtain ⟨⟨s4, s10, s11, s12⟩, hk5, ⟨g8, g8b, g18, g18b⟩, ⟨gP, gpd, gsm⟩, hsp, hmo'⟩ := id hK.1
  have hP : P ≤ 14 := gP
  have hpm := pm_le (mk := mk) (f := f) (n := P) (fun k _ => hK.2.1 k)
  have hfT : f k ≤ pd f 0 P := fk_pd hk gP hK.2.1
  have hfk1 := hK.2.1 k
  obtain ⟨T0, hT0⟩ : ∃ T0, T0 = tqz mk f 28 := ⟨_, rfl⟩
  have hmv2 : ∀ k, k < 28 → ¬ mb mk k = 0 → k < P := LDW.now hl hmk hnx
  have hTw := tqz_28 hT0 hmv2 hP
  rw [wn_pm] at hTw
  have hqk1 := hqk.1
  have hOb : (U.2.2.1 129 4).1 ≤ 32768 := by rcases hOL with y | y | y <;> omega
  refine mu_meth (M := mu_m307) rfl rfl ?_
  refine mw_ht (mu_fn_of (show [0, 1].Nodup by decide)) ?_
  refine mw_go mu_g307 (k := 2) (f1 := (4, [(0, .inr (.inr (some 129))), (1, .inl (nI k))], [.inr (.inr (mu_r H 129 0))], H)) (C := [mu_is H (some 129) 9]) rfl (show mu_is H (some 129) 9 from (h.1.1.is rfl)) ?_
  rw [(h.1.1.r (p := 129) (j := 0) (q := 99) rfl)]
  refine mw_go mu_g307 (k := 1) (f1 := (7, [(0, .inr (.inr (some 129))), (1, .inl (nI k))], [.inr (.inr (mu_r H 99 1))], H)) (C := [mu_is H (some 99) 13]) rfl (show mu_is H (some 99) 13 from (h.1.1.is rfl)) ?_
  rw [(h.1.1.r (p := 99) (j := 1) (q := 100) rfl)]
  refine mw_go mu_g307 (k := 1) (f1 := (10, [(0, .inr (.inr (some 129))), (1, .inl (nI k))], [.inl (mu_i H 100 4)], H)) (C := [mu_is H (some 100) 5]) rfl (show mu_is H (some 100) 5 from (h.1.1.is rfl)) ?_
  rw [(show mu_i H 100 4 = mk from (ud_i (U := U) (m := m) (P := 100) (j := 4) e rfl).trans hmk)]
  refine mw_go mu_g307 (k := 6) (f1 := (16, [(2, .inl mk), (0, .inr (.inr (some 129))), (1, .inl (nI k))], [.inl ((1 : Int32) <<< ((nI k) &&& 31)), .inl mk, .inr (.inr (some 129))], H)) (C := []) rfl trivial ?_
  refine mw_cI (fun _ => rfl) (show mu_is H (some 129) 9 from (h.1.1.is rfl)) (rl_facK (d := (d + 5)) (mk := mk) (tk := ((1 : Int32) <<< (nI k &&& 31))) h e hF hqk) (fun x1 H1 q1 => ?_)
  obtain ⟨qa, hqa, hx1, hQe⟩ := q1
  rw [hQe, hx1]
  refine mw_if (P := (nI qa) < 0) (a := 26) (b := 22) (fun _ => rfl) trivial (fun h2 => absurd h2 (nI_pos (by omega))) (fun h2 => ?_)
  refine mw_go mu_g307 (k := 8) (f1 := (33, [(3, .inl (1 : Int32)), (2, .inl mk), (0, .inr (.inr (some 129))), (1, .inl (nI k))], [.inl ((1 : Int32) <<< ((nI k) &&& 31)), .inl mk, .inr (.inr (some 129))], H)) (C := []) rfl trivial ?_
  refine mw_cI (fun _ => rfl) (show mu_is H (some 129) 9 from (h.1.1.is rfl)) (rl_opentK (d := (d + 3)) (C := C) (mk := mk) (tk := ((1 : Int32) <<< (nI k &&& 31))) (bs := bs) (ou := ou) (lw := nI k) h e hK.1 hF hbs hou hOL hol (fun y => absurd hqk (y qk)) (top_place (by omega)) hC1 hC2 hqk) (fun x3 H3 q3 => ?_)
  obtain ⟨qb, hqb, hx1, hQe⟩ := q3
  rw [hQe, hx1, show bs qb = bq from by rw [hun qb qk hqb hqk]; exact hbq]
  refine mw_go mu_g307 (k := 3) (f1 := (42, [(4, .inl (nI bq)), (3, .inl (1 : Int32)), (2, .inl mk), (0, .inr (.inr (some 129))), (1, .inl (nI k))], [.inr (.inr (mu_r H 129 0))], H)) (C := [mu_is H (some 129) 9]) rfl (show mu_is H (some 129) 9 from (h.1.1.is rfl)) ?_
  rw [(h.1.1.r (p := 129) (j := 0) (q := 99) rfl)]
  refine mw_go mu_g307 (k := 1) (f1 := (45, [(4, .inl (nI bq)), (3, .inl (1 : Int32)), (2, .inl mk), (0, .inr (.inr (some 129))), (1, .inl (nI k))], [.inr (.inr (mu_r H 99 1))], H)) (C := [mu_is H (some 99) 13]) rfl (show mu_is H (some 99) 13 from (h.1.1.is rfl)) ?_
  rw [(h.1.1.r (p := 99) (j := 1) (q := 100) rfl)]
  refine mw_go mu_g307 (k := 1) (f1 := (46, [(4, .inl (nI bq)), (3, .inl (1 : Int32)), (2, .inl mk), (0, .inr (.inr (some 129))), (1, .inl (nI k))], [.inl mk, .inr (.inr (some 100))], H)) (C := []) rfl trivial ?_
  have hK1 := hK
  have hM1 := hM
  have hl1 := hl
  refine mw_cI (fun _ => rfl) (show mu_is H (some 100) 5 from (h.1.1.is rfl)) (mc_rewindT (d := (d + 2)) (C := C) (T0 := T0) h e hK1 hM1 hl1 (show (U.2.1 100 4) = mk from hmk) hT0 (by omega)) (fun x4 Q4 q4 => ?_)
  obtain ⟨W, ⟨w1, w2⟩, rfl, u4, r4, z4, hKr, hMr, hTR0⟩ := q4
  have ht4 : ur m C H Q4 := (ur.refl m C H).trans r4
  obtain ⟨V4, d4⟩ : ∃ V, ud m Q4 = V := ⟨_, rfl⟩
  rw [d4] at z4 hKr hMr hTR0
  have qf4 : uq F307 U V4 := (uq.refl F307 U).tr z4 rfl
  obtain ⟨TN, hTN⟩ : ∃ TN, TN = (T0 + W - 1) / W := ⟨_, rfl⟩
  rw [← hTN]
  have hTNb : TN ≤ 17407 := by rw [hTN]; exact Nat.le_trans (Nat.div_le_self _ _) (by omega)
  refine mw_go mu_g307 (k := 5) (f1 := (57, [(7, .inl (0 : Int32)), (6, .inl (0 : Int32)), (5, .inl (nI TN)), (4, .inl (nI bq)), (3, .inl (1 : Int32)), (2, .inl mk), (0, .inr (.inr (some 129))), (1, .inl (nI k))], [], Q4)) (C := []) rfl trivial ?_
  rw [show nI bq = nI (bq + mwz W T0 0) from congrArg nI (by rw [mwz_eq]; omega)]
  show mu_W _ _ (57, [(7, .inl (nI 0)), (6, .inl (nI 0)), (5, .inl (nI TN)), (4, .inl (nI (bq + mwz W T0 0))), (3, .inl (1 : Int32)), (2, .inl mk), (0, .inr (.inr (some 129))), (1, .inl (nI k))], [], Q4) _
  refine mw_sub (L' := [(7, .inl (nI 0)), (6, .inl (nI 0)), (4, .inl (nI (bq + mwz W T0 0))), (0, .inr (.inr (some 129))), (1, .inl (nI k)), (2, .inl mk), (3, .inl (1 : Int32)), (5, .inl (nI TN))]) (by simp) ?_
  refine mw_down (α := Nat × Nat × mu_H) (fun zs => (57, [(7, .inl (nI zs.1)), (6, .inl (nI zs.2.1)), (4, .inl (nI (bq + mwz W T0 zs.1))), (0, .inr (.inr (some 129))), (1, .inl (nI k)), (2, .inl mk), (3, .inl (1 : Int32)), (5, .inl (nI TN))], [], zs.2.2)) (fun zs => TN - zs.1) (fun zs => um m zs.2.2 ∧ ur m C H zs.2.2 ∧ (uq F307a V4 (ud m zs.2.2)) ∧ (zs.1 ≤ TN) ∧ (KNV m (ud m zs.2.2) Y P f od es) ∧ (MCS (ud m zs.2.2)) ∧ (TRN (ud m zs.2.2) Y P f od a0 N0 i0 mk T0 W zs.1) ∧ (∃ bf bt, BZ (ud m zs.2.2) bf bt) ∧ (TBX U (ud m zs.2.2) N us S z p (min ((mo + 3) / 4) ((f k + 63) / 64)) bq (min (zs.1 * W) T0) (fun c x => S (oq c) x = true ∧ x < f k ∧ CHW Y b (lvl Y (vlz U f mk 0 c) (vlz U f mk 14 c) (evz Y od (vlz U f mk 0 c)) i0) a0 N0 ((U.2.2.1 99 8).2 (sm f 0 k + x)))) ∧ (zs.2.1 ≤ 16384)) (fun zs hza iha => ?_) (0, 0, Q4) ⟨u4, ht4, (show uq F307a V4 (ud m Q4) from by rw [d4]; exact uq.refl _ _), (show 0 ≤ TN from (by omega)), (show KNV m (ud m Q4) Y P f od es from by rw [d4]; exact hKr), (show MCS (ud m Q4) from by rw [d4]; exact hMr), (show TRN (ud m Q4) Y P f od a0 N0 i0 mk T0 W 0 from by rw [d4]; exact hTR0), (show ∃ bf bt, BZ (ud m Q4) bf bt from by rw [d4]; exact (⟨bf, bt, BZ_keep hz (show (V4.2.1 129 19) = (U.2.1 129 19) from (z4.i 129 19 rfl)) (show (V4.2.1 129 20) = (U.2.1 129 20) from (z4.i 129 20 rfl)) (show (V4.2.2.2.2.1 146) = (U.2.2.2.2.1 146) from (z4.l 146 rfl))⟩)), (show TBX U (ud m Q4) N us S z p (min ((mo + 3) / 4) ((f k + 63) / 64)) bq (min (0 * W) T0) (fun c x => S (oq c) x = true ∧ x < f k ∧ CHW Y b (lvl Y (vlz U f mk 0 c) (vlz U f mk 14 c) (evz Y od (vlz U f mk 0 c)) i0) a0 N0 ((U.2.2.1 99 8).2 (sm f 0 k + x))) from by rw [d4]; exact (by rw [Nat.zero_mul, Nat.zero_min]; exact TBX.init (hSO.eq (show (V4.2.1 113 1) = (U.2.1 113 1) from (z4.i 113 1 rfl)) (show (V4.2.1 113 2) = (U.2.1 113 2) from (z4.i 113 2 rfl)) (show (V4.2.1 113 5) = (U.2.1 113 5) from (z4.i 113 5 rfl)) (show (V4.2.2.1 113 3) = (U.2.2.1 113 3) from (z4.a 113 3 rfl)) (show (V4.2.2.1 113 4) = (U.2.2.1 113 4) from (z4.a 113 4 rfl)) (congrFun (z4.2.2.2.2.2 rfl) 114)) (fun a c _ => congrFun (congrFun (z4.2.2.2.2.2 rfl) a) c) (fun j => congrFun (congrArg Prod.snd (show (V4.2.2.1 129 4) = (U.2.2.1 129 4) from (z4.a 129 4 rfl))) j))), (show 0 ≤ 16384 from (by omega))⟩
  obtain ⟨i, mt, Hsa⟩ := zs
  obtain ⟨ua, hta, da, hi, hKa, hMa, hTRa, hBZa, hTBa, hmt⟩ := hza
  have ua : um m Hsa := ua
  have hta : ur m C H Hsa := hta
  have zza : uq F307a V4 (ud m Hsa) := da
  have hi : i ≤ TN := hi
  have hKa : KNV m (ud m Hsa) Y P f od es := hKa
  have hMa : MCS (ud m Hsa) := hMa
  have hTRa : TRN (ud m Hsa) Y P f od a0 N0 i0 mk T0 W i := hTRa
  have hBZa : ∃ bf bt, BZ (ud m Hsa) bf bt := hBZa
  have hTBa : TBX U (ud m Hsa) N us S z p (min ((mo + 3) / 4) ((f k + 63) / 64)) bq (min (i * W) T0) (fun c x => S (oq c) x = true ∧ x < f k ∧ CHW Y b (lvl Y (vlz U f mk 0 c) (vlz U f mk 14 c) (evz Y od (vlz U f mk 0 c)) i0) a0 N0 ((U.2.2.1 99 8).2 (sm f 0 k + x))) := hTBa
  have hmt : mt ≤ 16384 := hmt
  obtain ⟨Va, da⟩ : ∃ V, ud m Hsa = V := ⟨_, rfl⟩
  rw [da] at zza hKa hMa hTRa hBZa hTBa
  have qfa : uq F307 U Va := qf4.tr zza rfl
  show mu_W _ _ (57, [(7, .inl (nI i)), (6, .inl (nI mt)), (4, .inl (nI (bq + mwz W T0 i))), (0, .inr (.inr (some 129))), (1, .inl (nI k)), (2, .inl mk), (3, .inl (1 : Int32)), (5, .inl (nI TN))], [], Hsa) _
  refine mw_go mu_g307 (k := 2) (f1 := (61, [(7, .inl (nI i)), (6, .inl (nI mt)), (4, .inl (nI (bq + mwz W T0 i))), (0, .inr (.inr (some 129))), (1, .inl (nI k)), (2, .inl mk), (3, .inl (1 : Int32)), (5, .inl (nI TN))], [.inl (nI TN), .inl (nI i)], Hsa)) (C := []) rfl trivial ?_
  refine mw_if (P := (nI i) < (nI TN)) (a := 64) (b := 142) (fun _ => rfl) trivial (fun h5 => ?_) (fun h5 => ?_)
  · -- 64: (nI i) < (nI TN)
    have nh5 : i < TN := (nI_ltI (by omega) (by omega)).mp (show nI i < nI TN from h5)
    have hiW := turns_lt w1 (by rw [← hTN]; exact nh5)
    have hA15 : Va.1 15 = U.1 15 := ((zza.t 15 rfl).trans (z4.t 15 rfl))
    have hA98 : Va.2.2.1 99 8 = U.2.2.1 99 8 := ((zza.a 99 8 rfl).trans (z4.a 99 8 rfl))
    refine mw_go mu_g307 (k := 2) (f1 := (68, [(7, .inl (nI i)), (6, .inl (nI mt)), (4, .inl (nI (bq + mwz W T0 i))), (0, .inr (.inr (some 129))), (1, .inl (nI k)), (2, .inl mk), (3, .inl (1 : Int32)), (5, .inl (nI TN))], [.inr (.inr (mu_r Hsa 129 0))], Hsa)) (C := [mu_is Hsa (some 129) 9]) rfl (show mu_is Hsa (some 129) 9 from (ua.1.1.is rfl)) ?_
    rw [(ua.1.1.r (p := 129) (j := 0) (q := 99) rfl)]
    refine mw_go mu_g307 (k := 1) (f1 := (71, [(7, .inl (nI i)), (6, .inl (nI mt)), (4, .inl (nI (bq + mwz W T0 i))), (0, .inr (.inr (some 129))), (1, .inl (nI k)), (2, .inl mk), (3, .inl (1 : Int32)), (5, .inl (nI TN))], [.inr (.inr (mu_r Hsa 99 1))], Hsa)) (C := [mu_is Hsa (some 99) 13]) rfl (show mu_is Hsa (some 99) 13 from (ua.1.1.is rfl)) ?_
    rw [(ua.1.1.r (p := 99) (j := 1) (q := 100) rfl)]
    refine mw_cV (fun _ => rfl) (show mu_is Hsa (some 100) 5 from (ua.1.1.is rfl)) (mc_runT (d := (d + 1)) (C := C) ua da hKa hMa hTRa hiW hi0 hr0 hLk hs0 hal) (fun Q6 q6 => ?_)
    obtain ⟨u6, r6, z6, hKu, hMu, hTD, hRS⟩ := q6
    have ht6 : ur m C H Q6 := hta.trans r6
    obtain ⟨V6, d6⟩ : ∃ V, ud m Q6 = V := ⟨_, rfl⟩
    rw [d6] at z6 hKu hMu hTD hRS
    have qf6 : uq F307 U V6 := qfa.tr z6 rfl
    obtain ⟨l, hl⟩ : ∃ l, l = min W (T0 - i * W) := ⟨_, rfl⟩
    have l18 : V6.2.1 100 18 = nI l := by rw [hl]; exact hTD.i18
    rw [← hl] at hRS
    have hlb : 1 ≤ l ∧ l ≤ 1024 ∧ i * W + l ≤ T0 := by omega
    refine mw_go mu_g307 (k := 2) (f1 := (77, [(8, .inl (0 : Int32)), (7, .inl (nI i)), (6, .inl (nI mt)), (4, .inl (nI (bq + mwz W T0 i))), (0, .inr (.inr (some 129))), (1, .inl (nI k)), (2, .inl mk), (3, .inl (1 : Int32)), (5, .inl (nI TN))], [], Q6)) (C := []) rfl trivial ?_
    rw [show nI (bq + mwz W T0 i) = nI (bq + (i * W + 0)) from congrArg nI (by rw [mwz_eq]; omega)]
    show mu_W _ _ (77, [(8, .inl (nI 0)), (7, .inl (nI i)), (6, .inl (nI mt)), (4, .inl (nI (bq + (i * W + 0)))), (0, .inr (.inr (some 129))), (1, .inl (nI k)), (2, .inl mk), (3, .inl (1 : Int32)), (5, .inl (nI TN))], [], Q6) _
    refine mw_sub (L' := [(8, .inl (nI 0)), (6, .inl (nI mt)), (4, .inl (nI (bq + (i * W + 0)))), (0, .inr (.inr (some 129))), (1, .inl (nI k)), (2, .inl mk), (3, .inl (1 : Int32)), (5, .inl (nI TN)), (7, .inl (nI i))]) (by simp) ?_
    refine mw_down (α := Nat × Nat × mu_H) (fun zs => (77, [(8, .inl (nI zs.1)), (6, .inl (nI zs.2.1)), (4, .inl (nI (bq + (i * W + zs.1)))), (0, .inr (.inr (some 129))), (1, .inl (nI k)), (2, .inl mk), (3, .inl (1 : Int32)), (5, .inl (nI TN)), (7, .inl (nI i))], [], zs.2.2)) (fun zs => l - zs.1) (fun zs => um m zs.2.2 ∧ ur m C H zs.2.2 ∧ (uq F307b V6 (ud m zs.2.2)) ∧ (zs.1 ≤ l) ∧ (∃ bf bt, BZ (ud m zs.2.2) bf bt) ∧ (TBX U (ud m zs.2.2) N us S z p (min ((mo + 3) / 4) ((f k + 63) / 64)) bq (i * W + zs.1) (fun c x => S (oq c) x = true ∧ x < f k ∧ CHW Y b (lvl Y (vlz U f mk 0 c) (vlz U f mk 14 c) (evz Y od (vlz U f mk 0 c)) i0) a0 N0 ((U.2.2.1 99 8).2 (sm f 0 k + x)))) ∧ (zs.2.1 ≤ 16384)) (fun zs hzb ihb => ?_) (0, mt, Q6) ⟨u6, ht6, (show uq F307b V6 (ud m Q6) from by rw [d6]; exact uq.refl _ _), (show 0 ≤ l from (by omega)), (show ∃ bf bt, BZ (ud m Q6) bf bt from by rw [d6]; exact (by obtain ⟨b1, b2, b3⟩ := hBZa; exact ⟨b1, b2, BZ_keep b3 (show (V6.2.1 129 19) = (Va.2.1 129 19) from (z6.i 129 19 rfl)) (show (V6.2.1 129 20) = (Va.2.1 129 20) from (z6.i 129 20 rfl)) (show (V6.2.2.2.2.1 146) = (Va.2.2.2.2.1 146) from (z6.l 146 rfl))⟩)), (show TBX U (ud m Q6) N us S z p (min ((mo + 3) / 4) ((f k + 63) / 64)) bq (i * W + 0) (fun c x => S (oq c) x = true ∧ x < f k ∧ CHW Y b (lvl Y (vlz U f mk 0 c) (vlz U f mk 14 c) (evz Y od (vlz U f mk 0 c)) i0) a0 N0 ((U.2.2.1 99 8).2 (sm f 0 k + x))) from by rw [d6]; exact (by rw [show i * W + 0 = min (i * W) T0 by omega]; exact hTBa.eq (show (V6.2.1 113 1) = (Va.2.1 113 1) from (z6.i 113 1 rfl)) (show (V6.2.1 113 2) = (Va.2.1 113 2) from (z6.i 113 2 rfl)) (show (V6.2.1 113 5) = (Va.2.1 113 5) from (z6.i 113 5 rfl)) (show (V6.2.2.1 113 3) = (Va.2.2.1 113 3) from (z6.a 113 3 rfl)) (show (V6.2.2.1 113 4) = (Va.2.2.1 113 4) from (z6.a 113 4 rfl)) (show (V6.2.2.1 129 4) = (Va.2.2.1 129 4) from (z6.a 129 4 rfl)) (z6.2.2.2.2.2 rfl))), (show mt ≤ 16384 from (by omega))⟩
    obtain ⟨lane, mu, Hsb⟩ := zs
    obtain ⟨ub, htb, db, hlane, hBZb, hTBb, hmu⟩ := hzb
    have ub : um m Hsb := ub
    have htb : ur m C H Hsb := htb
    have zzb : uq F307b V6 (ud m Hsb) := db
    have hlane : lane ≤ l := hlane
    have hBZb : ∃ bf bt, BZ (ud m Hsb) bf bt := hBZb
    have hTBb : TBX U (ud m Hsb) N us S z p (min ((mo + 3) / 4) ((f k + 63) / 64)) bq (i * W + lane) (fun c x => S (oq c) x = true ∧ x < f k ∧ CHW Y b (lvl Y (vlz U f mk 0 c) (vlz U f mk 14 c) (evz Y od (vlz U f mk 0 c)) i0) a0 N0 ((U.2.2.1 99 8).2 (sm f 0 k + x))) := hTBb
    have hmu : mu ≤ 16384 := hmu
    obtain ⟨Vb, db⟩ : ∃ V, ud m Hsb = V := ⟨_, rfl⟩
    rw [db] at zzb hBZb hTBb
    have qfb : uq F307 U Vb := qf6.tr zzb rfl
    show mu_W _ _ (77, [(8, .inl (nI lane)), (6, .inl (nI mu)), (4, .inl (nI (bq + (i * W + lane)))), (0, .inr (.inr (some 129))), (1, .inl (nI k)), (2, .inl mk), (3, .inl (1 : Int32)), (5, .inl (nI TN)), (7, .inl (nI i))], [], Hsb) _
    refine mw_go mu_g307 (k := 3) (f1 := (83, [(8, .inl (nI lane)), (6, .inl (nI mu)), (4, .inl (nI (bq + (i * W + lane)))), (0, .inr (.inr (some 129))), (1, .inl (nI k)), (2, .inl mk), (3, .inl (1 : Int32)), (5, .inl (nI TN)), (7, .inl (nI i))], [.inr (.inr (mu_r Hsb 129 0)), .inl (nI lane)], Hsb)) (C := [mu_is Hsb (some 129) 9]) rfl (show mu_is Hsb (some 129) 9 from (ub.1.1.is rfl)) ?_
    rw [(ub.1.1.r (p := 129) (j := 0) (q := 99) rfl)]
    refine mw_go mu_g307 (k := 1) (f1 := (86, [(8, .inl (nI lane)), (6, .inl (nI mu)), (4, .inl (nI (bq + (i * W + lane)))), (0, .inr (.inr (some 129))), (1, .inl (nI k)), (2, .inl mk), (3, .inl (1 : Int32)), (5, .inl (nI TN)), (7, .inl (nI i))], [.inr (.inr (mu_r Hsb 99 1)), .inl (nI lane)], Hsb)) (C := [mu_is Hsb (some 99) 13]) rfl (show mu_is Hsb (some 99) 13 from (ub.1.1.is rfl)) ?_
    rw [(ub.1.1.r (p := 99) (j := 1) (q := 100) rfl)]
    refine mw_go mu_g307 (k := 1) (f1 := (89, [(8, .inl (nI lane)), (6, .inl (nI mu)), (4, .inl (nI (bq + (i * W + lane)))), (0, .inr (.inr (some 129))), (1, .inl (nI k)), (2, .inl mk), (3, .inl (1 : Int32)), (5, .inl (nI TN)), (7, .inl (nI i))], [.inl (mu_i Hsb 100 18), .inl (nI lane)], Hsb)) (C := [mu_is Hsb (some 100) 5]) rfl (show mu_is Hsb (some 100) 5 from (ub.1.1.is rfl)) ?_
    rw [(show mu_i Hsb 100 18 = (nI l) from (ud_i (U := Vb) (m := m) (P := 100) (j := 18) db rfl).trans ((zzb.i 100 18 rfl).trans l18))]
    refine mw_if (P := (nI lane) < (nI l)) (a := 92) (b := 126) (fun _ => rfl) trivial (fun h7 => ?_) (fun h7 => ?_)
    · -- 92: (nI lane) < (nI l)
      have nh7 : lane < l := (nI_ltI (by omega) (by omega)).mp (show nI lane < nI l from h7)
      refine mw_go mu_g307 (k := 3) (f1 := (96, [(8, .inl (nI lane)), (6, .inl (nI mu)), (4, .inl (nI (bq + (i * W + lane)))), (0, .inr (.inr (some 129))), (1, .inl (nI k)), (2, .inl mk), (3, .inl (1 : Int32)), (5, .inl (nI TN)), (7, .inl (nI i))], [.inl (nI lane), .inl (nI k), .inr (.inr (some 129))], Hsb)) (C := []) rfl trivial ?_
      obtain ⟨K, cv, hch, ⟨hKb, hKm⟩, hcv⟩ := chv_anyK (m := m) (lane := lane) hRS (by omega) hK.2.2.2.1.1.2.2.2.2.2.1.2 hr0 hb hmo
      have hch2 : CHV m Vb lane K cv := hch.q ⟨fun j => zzb.i 100 j rfl, fun j => zzb.a 100 j rfl, fun j => zzb.r 100 j rfl⟩
      obtain ⟨bfb, btb, hBb⟩ := hBZb
      have hVb : VDF Vb P f := by unfold VDF; rw [(show (Vb.2.1 99 9) = (U.2.1 99 9) from ((zzb.i 99 9 rfl).trans ((z6.i 99 9 rfl).trans ((zza.i 99 9 rfl).trans (z4.i 99 9 rfl))))), (show (Vb.2.2.1 99 8) = (U.2.2.1 99 8) from ((zzb.a 99 8 rfl).trans ((z6.a 99 8 rfl).trans ((zza.a 99 8 rfl).trans (z4.a 99 8 rfl)))))]; exact hV
      have hl10 : (Vb.2.2.1 129 10).1 = (U.2.2.1 129 10).1 := (show (Vb.2.2.1 129 10).1 = (U.2.2.1 129 10).1 from ((zzb.n 129 10 rfl).trans ((z6.n 129 10 rfl).trans ((zza.n 129 10 rfl).trans (z4.n 129 10 rfl)))))
      refine mw_cV (fun _ => rfl) (show mu_is Hsb (some 129) 9 from (ub.1.1.is rfl)) (rl_listd (d := (d + 3)) (C := C) (K := K) (cv := cv) (k := k) ub db (spx_keep hK.1 (show (Vb.2.1 99 4) = (U.2.1 99 4) from ((zzb.i 99 4 rfl).trans ((z6.i 99 4 rfl).trans ((zza.i 99 4 rfl).trans (z4.i 99 4 rfl))))) (show (Vb.2.1 99 10) = (U.2.1 99 10) from ((zzb.i 99 10 rfl).trans ((z6.i 99 10 rfl).trans ((zza.i 99 10 rfl).trans (z4.i 99 10 rfl))))) (show (Vb.2.1 99 11) = (U.2.1 99 11) from ((zzb.i 99 11 rfl).trans ((z6.i 99 11 rfl).trans ((zza.i 99 11 rfl).trans (z4.i 99 11 rfl))))) (show (Vb.2.1 99 12) = (U.2.1 99 12) from ((zzb.i 99 12 rfl).trans ((z6.i 99 12 rfl).trans ((zza.i 99 12 rfl).trans (z4.i 99 12 rfl))))) (show (Vb.2.2.1 99 5) = (U.2.2.1 99 5) from ((zzb.a 99 5 rfl).trans ((z6.a 99 5 rfl).trans ((zza.a 99 5 rfl).trans (z4.a 99 5 rfl))))) (show (Vb.2.2.1 99 7) = (U.2.2.1 99 7) from ((zzb.a 99 7 rfl).trans ((z6.a 99 7 rfl).trans ((zza.a 99 7 rfl).trans (z4.a 99 7 rfl))))) (show (Vb.2.2.1 99 6) = (U.2.2.1 99 6) from ((zzb.a 99 6 rfl).trans ((z6.a 99 6 rfl).trans ((zza.a 99 6 rfl).trans (z4.a 99 6 rfl))))) (show (Vb.2.2.1 99 8).1 = (U.2.2.1 99 8).1 from ((zzb.n 99 8 rfl).trans ((z6.n 99 8 rfl).trans ((zza.n 99 8 rfl).trans (z4.n 99 8 rfl))))) (show (Vb.2.2.1 99 18).1 = (U.2.2.1 99 18).1 from ((zzb.n 99 18 rfl).trans ((z6.n 99 18 rfl).trans ((zza.n 99 18 rfl).trans (z4.n 99 18 rfl))))) (show (Vb.2.2.2.1 100 0) = (U.2.2.2.1 100 0) from ((zzb.r 100 0 rfl).trans ((z6.r 100 0 rfl).trans ((zza.r 100 0 rfl).trans (z4.r 100 0 rfl))))) (show (Vb.2.2.2.1 99 0) = (U.2.2.2.1 99 0) from ((zzb.r 99 0 rfl).trans ((z6.r 99 0 rfl).trans ((zza.r 99 0 rfl).trans (z4.r 99 0 rfl)))))) hk hVb hBb hch2 hKb (by rw [hl10]; exact hLl) (by rw [hl10]; omega) hfT) (fun Q8 q8 => ?_)
      obtain ⟨u8, r8, z8, hBZn, nn, ls, l11, hls, hlr, hlm⟩ := q8
      have ht8 : ur m C H Q8 := htb.trans r8
      obtain ⟨V8, d8⟩ : ∃ V, ud m Q8 = V := ⟨_, rfl⟩
      rw [d8] at z8 hBZn l11 hls
      have qf8 : uq F307 U V8 := qfb.tr z8 rfl
      have hcvk : ∀ x, CHD Vb f k K cv x ↔ CHW Y b (lvl Y (vlz U f mk 0 (i * W + lane)) (vlz U f mk 14 (i * W + lane)) (evz Y od (vlz U f mk 0 (i * W + lane))) i0) a0 N0 ((U.2.2.1 99 8).2 (sm f 0 k + x)) := fun x => by unfold CHD; rw [show Vb.2.2.1 99 8 = U.2.2.1 99 8 from ((zzb.a 99 8 rfl).trans ((z6.a 99 8 rfl).trans ((zza.a 99 8 rfl).trans (z4.a 99 8 rfl))))]; have y := hcv ((U.2.2.1 99 8).2 (sm f 0 k + x)); rw [vlz_same (U := U) (V := Va) hA15 hA98] at y; rw [vlz_same (U := U) (V := Va) hA15 hA98] at y; exact y
      have hlf : ∀ x, lmz ls nn x = true ↔ x < f k ∧ CHW Y b (lvl Y (vlz U f mk 0 (i * W + lane)) (vlz U f mk 14 (i * W + lane)) (evz Y od (vlz U f mk 0 (i * W + lane))) i0) a0 N0 ((U.2.2.1 99 8).2 (sm f 0 k + x)) := fun x => (hlm x).trans (and_congr_right (fun _ => hcvk x))
      have hlt : ∀ i, i < nn → ls i < f k := fun i hi => ((hlm (ls i)).mp (lmz_in hi)).1
      have hnn : nn ≤ f k := by by_cases h0 : nn = 0; (rw [h0]; exact Nat.zero_le _); (have y1 := rise_le hlr (nn - 1) (by omega); have y2 := hlt (nn - 1) (by omega); omega)
      have hnK : nn ≤ K := list_le hlr (fun i hi => by obtain ⟨y1, j, y2, y3⟩ := (hlm (ls i)).mp (lmz_in hi); exact ⟨j, y2, y3⟩) (fun a c ha hc y => hVb.2 k hk a c ha hc y) hlt
      have hnS : nn ≤ max 1 mo := Nat.le_trans hnK hKm
      have hlb2 : ∀ i, i < nn → ls i < 16384 := fun i hi => by have y := hlt i hi; omega
      refine mw_go mu_g307 (k := 3) (f1 := (103, [(8, .inl (nI lane)), (6, .inl (nI mu)), (4, .inl (nI (bq + (i * W + lane)))), (0, .inr (.inr (some 129))), (1, .inl (nI k)), (2, .inl mk), (3, .inl (1 : Int32)), (5, .inl (nI TN)), (7, .inl (nI i))], [.inl (1 : Int32), .inl (nI (bq + (i * W + lane))), .inr (.inr (some 129))], Q8)) (C := []) rfl trivial ?_
      obtain ⟨hTp, hTo, N1, us1, S1, z1, p1, oid, hSk, hNb, hNS, hUb, hcl⟩ := hTBb
      have hSv : SOK V8 N1 us1 S1 z1 p1 := hSk.eq (show (V8.2.1 113 1) = (Vb.2.1 113 1) from (z8.i 113 1 rfl)) (show (V8.2.1 113 2) = (Vb.2.1 113 2) from (z8.i 113 2 rfl)) (show (V8.2.1 113 5) = (Vb.2.1 113 5) from (z8.i 113 5 rfl)) (show (V8.2.2.1 113 3) = (Vb.2.2.1 113 3) from (z8.a 113 3 rfl)) (show (V8.2.2.1 113 4) = (Vb.2.2.1 113 4) from (z8.a 113 4 rfl)) (congrFun (z8.2.2.2.2.2 rfl) 114)
      have hn10 : (V8.2.2.1 129 10).1 = (U.2.2.1 129 10).1 := ((z8.n 129 10 rfl).trans ((zzb.n 129 10 rfl).trans ((z6.n 129 10 rfl).trans ((zza.n 129 10 rfl).trans (z4.n 129 10 rfl)))))
      have hn4 : (V8.2.2.1 129 4).1 = (U.2.2.1 129 4).1 := ((z8.n 129 4 rfl).trans ((zzb.n 129 4 rfl).trans ((z6.n 129 4 rfl).trans ((zza.n 129 4 rfl).trans (z4.n 129 4 rfl)))))
      have hcost : (i * W + lane) * ((min ((mo + 3) / 4) ((f k + 63) / 64)) + 1) ≤ pm mk f P * ((min ((mo + 3) / 4) ((f k + 63) / 64)) + 1) := Nat.mul_le_mul_right _ (by omega)
      have hub1 := hSk.1.2.1
      obtain ⟨hq1, hq2, hq3⟩ := hold (i * W + lane) (by omega)
      have hc4 : (V8.2.2.1 129 4).2 (bq + (i * W + lane)) = nI (oq (i * W + lane)) := by rw [(show (V8.2.2.1 129 4) = (Vb.2.2.1 129 4) from (z8.a 129 4 rfl)), hTo _ (by omega)]; exact hq1
      refine mw_cV (fun _ => rfl) (show mu_is Q8 (some 129) 9 from (u8.1.1.is rfl)) (rl_write1 (d := (d + 2)) (C := C) (n := nn) (ls := ls) (c := bq + (i * W + lane)) u8 d8 l11 hls (by rw [hn10]; omega) (by rw [hn10]; omega) hlb2 hlr hSv (by omega) (by rw [hn4]; omega) (by rw [hn4]; omega) hc4 (by omega) ((hNS _ hq2).2.2.trans hq3)) (fun Q9 q9 => ?_)
      obtain ⟨u9, r9, z9, id, lw, gg, W2, W3, hqw, hw11, hgg, hgr, hgm, hAD, hdw⟩ := q9
      have ht9 : ur m C H Q9 := ht8.trans r9
      obtain ⟨V9, d9⟩ : ∃ V, ud m Q9 = V := ⟨_, rfl⟩
      rw [d9] at z9 hdw
      have qf9 : uq F307 U V9 := qf8.tr z9 rfl
      have hlw : V9.2.1 129 11 = nI lw := by rw [hdw]; exact (show W3.2.1 129 11 = W2.2.1 129 11 from hAD.1.i 129 11 rfl).trans hw11
      have hglt : ∀ j, j < lw → gg j < f k := fun j hj => by obtain ⟨q, q1, q2⟩ := (lmz_iff nn).mp ((hgm (gg j)).mp (lmz_in hj)).1; rw [← q2]; exact hlt q q1
      have hgn : lw ≤ nn := by exact sub_le hgr hlr (fun j hj => (lmz_iff nn).mp ((hgm (gg j)).mp (lmz_in hj)).1)
      refine mw_go mu_g307 (k := 3) (f1 := (112, [(8, .inl (nI lane)), (6, .inl (nI mu)), (4, .inl (nI (bq + (i * W + lane)))), (0, .inr (.inr (some 129))), (1, .inl (nI k)), (2, .inl mk), (3, .inl (1 : Int32)), (5, .inl (nI TN)), (7, .inl (nI i))], [.inl (mu_i Q9 129 11), .inl (nI mu)], Q9)) (C := [mu_is Q9 (some 129) 9]) rfl (show mu_is Q9 (some 129) 9 from (u9.1.1.is rfl)) ?_
      rw [(show mu_i Q9 129 11 = (nI lw) from (ud_i (U := V9) (m := m) (P := 129) (j := 11) d9 rfl).trans hlw)]
      refine mw_cIe (fun _ => rfl) trivial (mu_max_ok (d := (d + 6)) (nI mu) (nI lw)) ?_
      rw [show (mu_max (nI mu) (nI lw)) = nI (max mu lw) from mu_max_n (a := mu) (b := lw) (by omega) (by omega)]
      refine mw_go mu_g307 (k := 2) (f1 := (120, [(4, .inl ((nI (bq + (i * W + lane))) + 1)), (6, .inl (nI (max mu lw))), (8, .inl (nI lane)), (0, .inr (.inr (some 129))), (1, .inl (nI k)), (2, .inl mk), (3, .inl (1 : Int32)), (5, .inl (nI TN)), (7, .inl (nI i))], [], Q9)) (C := []) rfl trivial ?_
      rw [(show ((nI (bq + (i * W + lane))) + 1) = (nI ((bq + (i * W + lane)) + 1)) from (nI_add (bq + (i * W + lane)) 1))]
      refine mw_go mu_g307 (k := 1) (f1 := (123, [(8, .inl ((nI lane) + 1)), (4, .inl (nI ((bq + (i * W + lane)) + 1))), (6, .inl (nI (max mu lw))), (0, .inr (.inr (some 129))), (1, .inl (nI k)), (2, .inl mk), (3, .inl (1 : Int32)), (5, .inl (nI TN)), (7, .inl (nI i))], [], Q9)) (C := []) rfl trivial ?_
      rw [(show ((nI lane) + 1) = (nI (lane + 1)) from (nI_add lane 1))]
      refine mw_go mu_g307 (k := 1) (f1 := (77, [(8, .inl (nI (lane + 1))), (4, .inl (nI ((bq + (i * W + lane)) + 1))), (6, .inl (nI (max mu lw))), (0, .inr (.inr (some 129))), (1, .inl (nI k)), (2, .inl mk), (3, .inl (1 : Int32)), (5, .inl (nI TN)), (7, .inl (nI i))], [], Q9)) (C := []) rfl trivial ?_
      show mu_W _ _ (77, [(8, .inl (nI (lane + 1))), (4, .inl (nI (bq + (i * W + (lane + 1))))), (6, .inl (nI (max mu lw))), (0, .inr (.inr (some 129))), (1, .inl (nI k)), (2, .inl mk), (3, .inl (1 : Int32)), (5, .inl (nI TN)), (7, .inl (nI i))], [], Q9) _
      exact mw_sub (by simp) (ihb (lane + 1, max mu lw, Q9) ⟨u9, ht9, (show uq F307b V6 (ud m Q9) from by rw [d9]; exact ((zzb.tr z8 rfl).tr z9 rfl)), (show (lane + 1) ≤ l from (by omega)), (show ∃ bf bt, BZ (ud m Q9) bf bt from by rw [d9]; exact (by obtain ⟨b1, b2, b3⟩ := hBZn; exact ⟨b1, b2, BZ_keep b3 (show (V9.2.1 129 19) = (V8.2.1 129 19) from (z9.i 129 19 rfl)) (show (V9.2.1 129 20) = (V8.2.1 129 20) from (z9.i 129 20 rfl)) (show (V9.2.2.2.2.1 146) = (V8.2.2.2.2.1 146) from (z9.l 146 rfl))⟩)), (show TBX U (ud m Q9) N us S z p (min ((mo + 3) / 4) ((f k + 63) / 64)) bq (i * W + (lane + 1)) (fun c x => S (oq c) x = true ∧ x < f k ∧ CHW Y b (lvl Y (vlz U f mk 0 c) (vlz U f mk 14 c) (evz Y od (vlz U f mk 0 c)) i0) a0 N0 ((U.2.2.1 99 8).2 (sm f 0 k + x))) from by rw [d9]; exact (by rw [hdw]; exact TBX.step (ls := gg) (nn := lw) (id := id) (V1 := W2) hTp hTo hNb hNS hUb hcl ((hqw.2.2.2.2.2 rfl).trans (z8.2.2.2.2.2 rfl)) ((hqw.a 129 4 rfl).trans (show (V8.2.2.1 129 4) = (Vb.2.2.1 129 4) from (z8.a 129 4 rfl))) hAD (fun ln y1 y2 => by by_cases h0 : lw = 0; (omega); (have y3 := y2 (by omega); have y4 := hglt (lw - 1) (by omega); omega)) (by omega) (fun x => (hgm x).trans ⟨fun y => ⟨by have w := (hNS _ hq2).1; rw [← w]; exact y.2, (hlf x).mp y.1⟩, fun y => ⟨(hlf x).mpr y.2, by have w := (hNS _ hq2).1; rw [w]; exact y.1⟩⟩))), (show (max mu lw) ≤ 16384 from (by omega))⟩ (by show l - (lane + 1) < l - lane; omega))
    · -- 126: not (nI lane) < (nI l)
      have nh7 : ¬ lane < l := fun z => h7 (show nI lane < nI l from (nI_ltI (by omega) (by omega)).mpr z)
      refine mw_go mu_g307 (k := 2) (f1 := (130, [(8, .inl (nI lane)), (6, .inl (nI mu)), (4, .inl (nI (bq + (i * W + lane)))), (0, .inr (.inr (some 129))), (1, .inl (nI k)), (2, .inl mk), (3, .inl (1 : Int32)), (5, .inl (nI TN)), (7, .inl (nI i))], [.inr (.inr (mu_r Hsb 129 0))], Hsb)) (C := [mu_is Hsb (some 129) 9]) rfl (show mu_is Hsb (some 129) 9 from (ub.1.1.is rfl)) ?_
      rw [(ub.1.1.r (p := 129) (j := 0) (q := 99) rfl)]
      refine mw_go mu_g307 (k := 1) (f1 := (133, [(8, .inl (nI lane)), (6, .inl (nI mu)), (4, .inl (nI (bq + (i * W + lane)))), (0, .inr (.inr (some 129))), (1, .inl (nI k)), (2, .inl mk), (3, .inl (1 : Int32)), (5, .inl (nI TN)), (7, .inl (nI i))], [.inr (.inr (mu_r Hsb 99 1))], Hsb)) (C := [mu_is Hsb (some 99) 13]) rfl (show mu_is Hsb (some 99) 13 from (ub.1.1.is rfl)) ?_
      rw [(ub.1.1.r (p := 99) (j := 1) (q := 100) rfl)]
      have hTDt : TRD Vb Y P f od a0 N0 i0 mk T0 W i := hTD.keep (show (Vb.1 21) = (V6.1 21) from (zzb.t 21 rfl)) (show (Vb.1 22) = (V6.1 22) from (zzb.t 22 rfl)) (show (Vb.1 15) = (V6.1 15) from (zzb.t 15 rfl)) (show (Vb.2.2.1 100 3) = (V6.2.2.1 100 3) from (zzb.a 100 3 rfl)) (show (Vb.2.1 100 5) = (V6.2.1 100 5) from (zzb.i 100 5 rfl)) (show (Vb.2.1 100 7) = (V6.2.1 100 7) from (zzb.i 100 7 rfl)) (show (Vb.2.1 100 17) = (V6.2.1 100 17) from (zzb.i 100 17 rfl)) (show (Vb.2.1 100 4) = (V6.2.1 100 4) from (zzb.i 100 4 rfl)) (show (Vb.2.1 100 18) = (V6.2.1 100 18) from (zzb.i 100 18 rfl)) (show (Vb.2.1 100 19) = (V6.2.1 100 19) from (zzb.i 100 19 rfl)) (show (Vb.2.1 100 20) = (V6.2.1 100 20) from (zzb.i 100 20 rfl)) (show (Vb.2.2.1 100 8) = (V6.2.2.1 100 8) from (zzb.a 100 8 rfl)) (show (Vb.2.2.1 100 12).1 = (V6.2.2.1 100 12).1 from (zzb.n 100 12 rfl)) (show (Vb.2.2.1 100 13).1 = (V6.2.2.1 100 13).1 from (zzb.n 100 13 rfl)) (show (Vb.2.2.1 100 15).1 = (V6.2.2.1 100 15).1 from (zzb.n 100 15 rfl)) (show (Vb.2.2.1 99 8) = (V6.2.2.1 99 8) from (zzb.a 99 8 rfl))
      have hMt := (show MCS Vb from ⟨by rw [(show (Vb.1 22) = (V6.1 22) from (zzb.t 22 rfl))]; exact hMu.1, by rw [(show (Vb.2.2.1 100 3).1 = (V6.2.2.1 100 3).1 from (zzb.n 100 3 rfl))]; exact hMu.2.1, by rw [(show (Vb.2.2.1 100 8).1 = (V6.2.2.1 100 8).1 from (zzb.n 100 8 rfl))]; exact hMu.2.2.1, by rw [(show (Vb.2.2.1 100 12).1 = (V6.2.2.1 100 12).1 from (zzb.n 100 12 rfl))]; exact hMu.2.2.2.1, by rw [(show (Vb.2.2.1 100 13).1 = (V6.2.2.1 100 13).1 from (zzb.n 100 13 rfl))]; exact hMu.2.2.2.2.1, by rw [(show (Vb.2.2.1 100 15).1 = (V6.2.2.1 100 15).1 from (zzb.n 100 15 rfl))]; exact hMu.2.2.2.2.2⟩)
      have hKt : KNV m Vb Y P f od es := hKu.q zzb rfl
      refine mw_cV (fun _ => rfl) (show mu_is Hsb (some 100) 5 from (ub.1.1.is rfl)) (mc_turnT (d := (d + 2)) (C := C) ub db hKt hMt hTDt hiW (by omega)) (fun Q11 q11 => ?_)
      obtain ⟨u11, r11, z11, hKn, hMn, hTRn⟩ := q11
      have ht11 : ur m C H Q11 := htb.trans r11
      obtain ⟨V11, d11⟩ : ∃ V, ud m Q11 = V := ⟨_, rfl⟩
      rw [d11] at z11 hKn hMn hTRn
      have qf11 : uq F307 U V11 := qfb.tr z11 rfl
      have hsm : (i + 1) * W = i * W + W := Nat.succ_mul i W
      rw [show nI (bq + (i * W + lane)) = nI (bq + mwz W T0 (i + 1)) from congrArg nI (by rw [mwz_eq]; omega)]
      refine mw_go mu_g307 (k := 1) (f1 := (139, [(7, .inl ((nI i) + 1)), (8, .inl (nI lane)), (6, .inl (nI mu)), (4, .inl (nI (bq + mwz W T0 (i + 1)))), (0, .inr (.inr (some 129))), (1, .inl (nI k)), (2, .inl mk), (3, .inl (1 : Int32)), (5, .inl (nI TN))], [], Q11)) (C := []) rfl trivial ?_
      rw [(show ((nI i) + 1) = (nI (i + 1)) from (nI_add i 1))]
      refine mw_go mu_g307 (k := 1) (f1 := (57, [(7, .inl (nI (i + 1))), (8, .inl (nI lane)), (6, .inl (nI mu)), (4, .inl (nI (bq + mwz W T0 (i + 1)))), (0, .inr (.inr (some 129))), (1, .inl (nI k)), (2, .inl mk), (3, .inl (1 : Int32)), (5, .inl (nI TN))], [], Q11)) (C := []) rfl trivial ?_
      exact mw_sub (by simp) (iha (i + 1, mu, Q11) ⟨u11, ht11, (show uq F307a V4 (ud m Q11) from by rw [d11]; exact (((zza.tr z6 rfl).tr zzb rfl).tr z11 rfl)), (show (i + 1) ≤ TN from (by omega)), (show KNV m (ud m Q11) Y P f od es from by rw [d11]; exact hKn), (show MCS (ud m Q11) from by rw [d11]; exact hMn), (show TRN (ud m Q11) Y P f od a0 N0 i0 mk T0 W (i + 1) from by rw [d11]; exact hTRn), (show ∃ bf bt, BZ (ud m Q11) bf bt from by rw [d11]; exact (by obtain ⟨b1, b2, b3⟩ := hBZb; exact ⟨b1, b2, BZ_keep b3 (show (V11.2.1 129 19) = (Vb.2.1 129 19) from (z11.i 129 19 rfl)) (show (V11.2.1 129 20) = (Vb.2.1 129 20) from (z11.i 129 20 rfl)) (show (V11.2.2.2.2.1 146) = (Vb.2.2.2.2.1 146) from (z11.l 146 rfl))⟩)), (show TBX U (ud m Q11) N us S z p (min ((mo + 3) / 4) ((f k + 63) / 64)) bq (min ((i + 1) * W) T0) (fun c x => S (oq c) x = true ∧ x < f k ∧ CHW Y b (lvl Y (vlz U f mk 0 c) (vlz U f mk 14 c) (evz Y od (vlz U f mk 0 c)) i0) a0 N0 ((U.2.2.1 99 8).2 (sm f 0 k + x))) from by rw [d11]; exact (by rw [show min ((i + 1) * W) T0 = i * W + lane by omega]; exact hTBb.eq (show (V11.2.1 113 1) = (Vb.2.1 113 1) from (z11.i 113 1 rfl)) (show (V11.2.1 113 2) = (Vb.2.1 113 2) from (z11.i 113 2 rfl)) (show (V11.2.1 113 5) = (Vb.2.1 113 5) from (z11.i 113 5 rfl)) (show (V11.2.2.1 113 3) = (Vb.2.2.1 113 3) from (z11.a 113 3 rfl)) (show (V11.2.2.1 113 4) = (Vb.2.2.1 113 4) from (z11.a 113 4 rfl)) (show (V11.2.2.1 129 4) = (Vb.2.2.1 129 4) from (z11.a 129 4 rfl)) (z11.2.2.2.2.2 rfl))), (show mu ≤ 16384 from (by omega))⟩ (by show TN - (i + 1) < TN - i; omega))
  · -- 142: not (nI i) < (nI TN)
    have nh5 : ¬ i < TN := fun z => h5 (show nI i < nI TN from (nI_ltI (by omega) (by omega)).mpr z)
    have hge : T0 ≤ i * W := turns_ge w1 (by rw [← hTN]; exact nh5)
    refine mw_go mu_g307 (k := 2) (f1 := (146, [(7, .inl (nI i)), (6, .inl (nI mt)), (4, .inl (nI (bq + mwz W T0 i))), (0, .inr (.inr (some 129))), (1, .inl (nI k)), (2, .inl mk), (3, .inl (1 : Int32)), (5, .inl (nI TN))], [.inr (.inr (mu_r Hsa 129 14))], Hsa)) (C := [mu_is Hsa (some 129) 9]) rfl (show mu_is Hsa (some 129) 9 from (ua.1.1.is rfl)) ?_
    rw [(ua.1.1.r (p := 129) (j := 14) (q := 142) rfl)]
    refine mw_go mu_g307 (k := 3) (f1 := (151, [(7, .inl (nI i)), (6, .inl (nI mt)), (4, .inl (nI (bq + mwz W T0 i))), (0, .inr (.inr (some 129))), (1, .inl (nI k)), (2, .inl mk), (3, .inl (1 : Int32)), (5, .inl (nI TN))], [.inr (.inr (mu_r Hsa 129 14)), .inl (nI k), .inr (.inr (some 142))], Hsa)) (C := [mu_is Hsa (some 129) 9]) rfl (show mu_is Hsa (some 129) 9 from (ua.1.1.is rfl)) ?_
    rw [(ua.1.1.r (p := 129) (j := 14) (q := 142) rfl)]
    refine mw_go mu_g307 (k := 2) (f1 := (153, [(7, .inl (nI i)), (6, .inl (nI mt)), (4, .inl (nI (bq + mwz W T0 i))), (0, .inr (.inr (some 129))), (1, .inl (nI k)), (2, .inl mk), (3, .inl (1 : Int32)), (5, .inl (nI TN))], [.inl (mu_i Hsa 142 (nI k).toNatClampNeg), .inl (nI k), .inr (.inr (some 142))], Hsa)) (C := [mu_isr Hsa (some 142) 100, vp_in (nI k) (mu_n Hsa 142)]) rfl (show (mu_isr Hsa (some 142) 100) ∧ (vp_in (nI k) (mu_n Hsa 142)) from ⟨((ua.iA da rfl rfl ((ud_q (m := m) (P := 129) (j := 14) da rfl).symm.trans (ua.1.1.r (p := 129) (j := 14) (q := 142) rfl)))).r, (by rw [show mu_n Hsa 142 = 28 from (ua.1.1.a (p := 142) (x := (100, 28)) rfl).2]; exact vp_in_nI (n := k) (by omega) (by decide))⟩) ?_
    obtain ⟨y12, hy12⟩ : ∃ y, y = (mu_i Hsa 142 (nI k).toNatClampNeg) := ⟨_, rfl⟩
    rw [← hy12]
    refine mw_go mu_g307 (k := 1) (f1 := (155, [(7, .inl (nI i)), (6, .inl (nI mt)), (4, .inl (nI (bq + mwz W T0 i))), (0, .inr (.inr (some 129))), (1, .inl (nI k)), (2, .inl mk), (3, .inl (1 : Int32)), (5, .inl (nI TN))], [.inl (nI mt), .inl y12, .inl (nI k), .inr (.inr (some 142))], Hsa)) (C := []) rfl trivial ?_
    refine mw_cIe (fun _ => rfl) trivial (mu_min_ok (d := (d + 6)) y12 (nI mt)) ?_
    refine mw_go mu_g307 (k := 1) (f1 := (159, [(7, .inl (nI i)), (6, .inl (nI mt)), (4, .inl (nI (bq + mwz W T0 i))), (0, .inr (.inr (some 129))), (1, .inl (nI k)), (2, .inl mk), (3, .inl (1 : Int32)), (5, .inl (nI TN))], [], (mu_si Hsa 142 (nI k).toNatClampNeg (mu_min y12 (nI mt))))) (C := [mu_is Hsa (some 142) 100, vp_in (nI k) (mu_n Hsa 142)]) rfl (show (mu_is Hsa (some 142) 100) ∧ (vp_in (nI k) (mu_n Hsa 142)) from ⟨(ua.iA da rfl rfl ((ud_q (m := m) (P := 129) (j := 14) da rfl).symm.trans (ua.1.1.r (p := 129) (j := 14) (q := 142) rfl))), (by rw [show mu_n Hsa 142 = 28 from (ua.1.1.a (p := 142) (x := (100, 28)) rfl).2]; exact vp_in_nI (n := k) (by omega) (by decide))⟩) ?_
    rw [(show (nI k).toNatClampNeg = k from nI_clamp (by omega))]
    obtain ⟨u14, r14, d14⟩ : um m (mu_si Hsa 142 k (mu_min y12 (nI mt))) ∧ ur m C Hsa (mu_si Hsa 142 k (mu_min y12 (nI mt))) ∧ ud m (mu_si Hsa 142 k (mu_min y12 (nI mt))) = (upA Va 129 14 k (mu_min y12 (nI mt))) := ua.sA (C := C) da rfl rfl ((ud_q (m := m) (P := 129) (j := 14) da rfl).symm.trans (ua.1.1.r (p := 129) (j := 14) (q := 142) rfl))
    generalize (mu_si Hsa 142 k (mu_min y12 (nI mt))) = Q14 at u14 r14 d14 ⊢
    have qf14 : uq F307 U (upA Va 129 14 k (mu_min y12 (nI mt))) := qfa.A rfl
    have ht14 : ur m C H Q14 := hta.trans r14
    have hKe : KNV m (upA Va 129 14 k (mu_min y12 (nI mt))) Y P f od es := hK.q qf14 rfl
    have hMe := (show MCS (upA Va 129 14 k (mu_min y12 (nI mt))) from ⟨by rw [(show ((upA Va 129 14 k (mu_min y12 (nI mt))).1 22) = (Va.1 22) from rfl)]; exact hMa.1, by rw [(show ((upA Va 129 14 k (mu_min y12 (nI mt))).2.2.1 100 3).1 = (Va.2.2.1 100 3).1 from rfl)]; exact hMa.2.1, by rw [(show ((upA Va 129 14 k (mu_min y12 (nI mt))).2.2.1 100 8).1 = (Va.2.2.1 100 8).1 from rfl)]; exact hMa.2.2.1, by rw [(show ((upA Va 129 14 k (mu_min y12 (nI mt))).2.2.1 100 12).1 = (Va.2.2.1 100 12).1 from rfl)]; exact hMa.2.2.2.1, by rw [(show ((upA Va 129 14 k (mu_min y12 (nI mt))).2.2.1 100 13).1 = (Va.2.2.1 100 13).1 from rfl)]; exact hMa.2.2.2.2.1, by rw [(show ((upA Va 129 14 k (mu_min y12 (nI mt))).2.2.1 100 15).1 = (Va.2.2.1 100 15).1 from rfl)]; exact hMa.2.2.2.2.2⟩)
    have hle : LDW (upA Va 129 14 k (mu_min y12 (nI mt))) Y P f od a0 N0 i0 := (hTRa.ldw hK.2.1).keep (show ((upA Va 129 14 k (mu_min y12 (nI mt))).1 21) = (Va.1 21) from rfl) (show ((upA Va 129 14 k (mu_min y12 (nI mt))).1 22) = (Va.1 22) from rfl) (show ((upA Va 129 14 k (mu_min y12 (nI mt))).1 15) = (Va.1 15) from rfl) (show ((upA Va 129 14 k (mu_min y12 (nI mt))).2.2.1 100 3) = (Va.2.2.1 100 3) from rfl) (show ((upA Va 129 14 k (mu_min y12 (nI mt))).2.1 100 5) = (Va.2.1 100 5) from rfl) (show ((upA Va 129 14 k (mu_min y12 (nI mt))).2.1 100 7) = (Va.2.1 100 7) from rfl) (show ((upA Va 129 14 k (mu_min y12 (nI mt))).2.1 100 17) = (Va.2.1 100 17) from rfl) (show ((upA Va 129 14 k (mu_min y12 (nI mt))).2.1 100 4) = (Va.2.1 100 4) from rfl) (show ((upA Va 129 14 k (mu_min y12 (nI mt))).2.2.1 100 8) = (Va.2.2.1 100 8) from rfl) (show ((upA Va 129 14 k (mu_min y12 (nI mt))).2.2.1 100 12).1 = (Va.2.2.1 100 12).1 from rfl) (show ((upA Va 129 14 k (mu_min y12 (nI mt))).2.2.1 100 13).1 = (Va.2.2.1 100 13).1 from rfl) (show ((upA Va 129 14 k (mu_min y12 (nI mt))).2.2.1 100 15).1 = (Va.2.2.1 100 15).1 from rfl) (show ((upA Va 129 14 k (mu_min y12 (nI mt))).2.2.1 99 8) = (Va.2.2.1 99 8) from rfl)
    have hze : ∃ bf bt, BZ (upA Va 129 14 k (mu_min y12 (nI mt))) bf bt := by obtain ⟨b1, b2, b3⟩ := hBZa; exact ⟨b1, b2, BZ_keep b3 (show ((upA Va 129 14 k (mu_min y12 (nI mt))).2.1 129 19) = (Va.2.1 129 19) from rfl) (show ((upA Va 129 14 k (mu_min y12 (nI mt))).2.1 129 20) = (Va.2.1 129 20) from rfl) (show ((upA Va 129 14 k (mu_min y12 (nI mt))).2.2.2.2.1 146) = (Va.2.2.2.2.1 146) from rfl)⟩
    rw [show min (i * W) T0 = pm mk f P by omega] at hTBa
    have hTe := hTBa.eq (V1 := (upA Va 129 14 k (mu_min y12 (nI mt)))) (show ((upA Va 129 14 k (mu_min y12 (nI mt))).2.1 113 1) = (Va.2.1 113 1) from rfl) (show ((upA Va 129 14 k (mu_min y12 (nI mt))).2.1 113 2) = (Va.2.1 113 2) from rfl) (show ((upA Va 129 14 k (mu_min y12 (nI mt))).2.1 113 5) = (Va.2.1 113 5) from rfl) (show ((upA Va 129 14 k (mu_min y12 (nI mt))).2.2.1 113 3) = (Va.2.2.1 113 3) from rfl) (show ((upA Va 129 14 k (mu_min y12 (nI mt))).2.2.1 113 4) = (Va.2.2.1 113 4) from rfl) (show ((upA Va 129 14 k (mu_min y12 (nI mt))).2.2.1 129 4) = (Va.2.2.1 129 4) from rfl) rfl
    refine mw_of (fun _ => mu_ret rfl trivial ⟨Q14, rfl, u14, ht14, (by rw [d14]; exact qf14), ?_⟩)
    rw [d14]
    exact ⟨hKe, hMe, hle, hze, hTe, (show ((upA Va 129 14 k (mu_min y12 (nI mt))).2.1 129 5) = (U.2.1 129 5) from ((zza.i 129 5 rfl).trans (z4.i 129 5 rfl))), (show ((upA Va 129 14 k (mu_min y12 (nI mt))).2.2.1 129 4).1 = (U.2.2.1 129 4).1 from ((zza.n 129 4 rfl).trans (z4.n 129 4 rfl))), (show ((upA Va 129 14 k (mu_min y12 (nI mt))).1 24) = (U.1 24) from ((zza.t 24 rfl).trans (z4.t 24 rfl)))⟩
end Tabulate
