/-! THE MACHINE runs what is posed -/
/-- a STATE is posed -/
def PSV (U : Ud) (P : Nat) (f : Nat → Nat) (s : Nat) : Prop := ∀ r, r < P → (U.1 22).2 r 2 = (U.2.2.1 99 8).2 (sm f 0 r + dgzU f P s r)
/-- what a run leaves -/
def RSL (V : Ud) (Y : Ts) (a0 N0 l : Nat) (lv : Nat → Nat → Int32) : Prop := ∃ V0 O A W it, ri V0 V Y O (sfz Y a0 N0) A W l a0 N0 lv it ∧ (V.2.1 100 5 = nI (sfz Y a0 N0) ∧ V.2.1 100 7 = nI O) ∧ (sfz Y a0 N0 ≤ O ∧ O ≤ A ∧ A ≤ 32768) ∧ sfz Y a0 N0 + 2 ≤ (V.2.2.1 100 15).1 ∧ (V.2.2.1 100 15).1 ≤ 131072
section RunPosed
variable {H : mu_H} {U V : Ud} {m d P a0 N0 i0 s l lane n k : Nat} {C : Nat → Nat} {Y : Ts} {f od : Nat → Nat} {es rs : Nat → Int32} {al : Int32} {kd : Bool} {vn vx lv : Nat → Nat → Int32}
theorem tqz_none : ∀ n, tqz 0 f n = 1
  | 0 => rfl
  | n + 1 => by
    show tqz 0 f n * (if mb 0 (27 - n) = 0 then 1 else f ((27 - n) % 14)) = 1
    rw [if_pos (mb_0 _ (by omega)), tqz_none n]
theorem wqz_none (hk : k < 32) : wqz 0 f k = 0 := if_pos (mb_0 k hk)
theorem vst_pl {w pl : Nat} (h : (U.1 15).2 w 2 = nI pl) (hp : pl < 14) : vst U f P s w = (U.2.2.1 99 8).2 (sm f 0 pl + dgzU f P s pl) := by
  unfold vst dgzU
  rw [h, if_neg (fun z => nI_neg1 (by omega) z), nI_clamp (by omega)]
theorem vst_m1 {w : Nat} (h : (U.1 15).2 w 2 = -1) : vst U f P s w = (U.1 15).2 w 3 := if_pos h
theorem vst_same (h15 : V.1 15 = U.1 15) (h8 : V.2.2.1 99 8 = U.2.2.1 99 8) : vst V f P s = vst U f P s := by
  funext w
  unfold vst
  rw [h15, h8]
/-- the values of a CHOICE, in a lane -/
theorem chv_of (hR : RSL V Y a0 N0 l lv) (hn : lane < l) (hC : Cc Y) (hr : rg Y k true a0 (a0 + N0)) : ∃ K cv, CHV m V lane K cv ∧ K < 2147483648 ∧ ∀ v, (∃ i, i < K ∧ cv i = v) ↔ chq Y (lv lane) a0 N0 v := by
  obtain ⟨V0, O, A, W, it, hri, ⟨h5, h7⟩, ⟨hcO, hOA, hA⟩, h15, h15b⟩ := hR
  obtain ⟨cp1, cp2⟩ := cp_pos hC hr
  have h1p := rg_1 hr
  rw [Nat.add_sub_cancel_left] at h1p
  have hkd : kdz Y a0 N0 0 = true := by
    have z := kst_kd hr.2.2.1 0 (by rw [Nat.add_sub_cancel_left]; omega)
    rw [Nat.add_sub_cancel_left, h1p] at z
    exact (Option.some.inj z).symm
  have hv := hri.2.2.1 0 lane (by omega) hn
  have hsb := fsz_le (Y := Y) (a := a0) (n := N0) (snz Y a0 N0) (Nat.le_refl _)
  have keep : ∀ V', MCQ V V' → ri V0 V' Y O (sfz Y a0 N0) A W l a0 N0 lv it := fun V' q => ri_keep hri (q.1 17) (q.1 18) (q.1 14) (q.1 16) (q.2.1 8) (q.2.1 12) (q.2.1 13) (q.2.1 15)
  rcases chz_n (lv := lv lane) hC hr N0 (Nat.le_refl _) 0 (by omega) hkd with ⟨c, c1, c2⟩ | z
  · have hm := fsz_mono (Y := Y) (a := a0) (n := N0) c c1
    have hm2 := fsz_le (Y := Y) (a := a0) (n := N0) (c + 1) (by omega)
    refine ⟨fszU Y a0 N0 (c + 1) - fszU Y a0 N0 c, fun k => kvz Y (lv lane) a0 N0 (fszU Y a0 N0 c + k), fun d H V' hu hd hq => ?_, by omega, fun v => ⟨fun ⟨i, i1, i2⟩ => Or.inr ⟨c, c1, c2, i, i1, i2⟩, fun q => ?_⟩⟩
    · have hri' := keep V' hq
      obtain ⟨r1, r2, r3, ⟨r4, r5, r6⟩, r7, r8⟩ := id hri'
      have e15 : (V'.2.2.1 100 15).1 = (V.2.2.1 100 15).1 := congrArg Prod.fst (hq.2.1 15)
      refine ⟨mc_choicesC (d := d) (c := c) (sc := snz Y a0 N0) (fs := fszU Y a0 N0) hu hd r1 ((hq.1 7).trans h7) ((hq.1 5).trans h5) hn cp1 (by omega) (by omega) ((r3 0 lane (by omega) hn).trans c2) c1 (by omega) (by omega) r5 hm (by omega), fun k hk => ?_⟩
      have r9 := r7 (fszU Y a0 N0 c + k) lane (by omega) hn
      refine (mc_choiceC (d := d) (k := k) (c := c) (sc := snz Y a0 N0) (fs := fszU Y a0 N0) hu hd r1 ((hq.1 7).trans h7) ((hq.1 5).trans h5) hn cp1 (by omega) (by omega) ((r3 0 lane (by omega) hn).trans c2) c1 (by omega) (by omega) r5 hm (by omega) hcO (by omega) (by omega)).imp (fun x H1 q => ⟨q.1.trans ?_, q.2⟩)
      rw [Nat.add_assoc]
      exact r9
    · rcases q with ⟨q1, -⟩ | ⟨c', q1, q2, k, q3, q4⟩
      · rw [c2] at q1
        exact absurd q1 (nI_neg1 (by omega))
      · have e0 : c = c' := (nI_eq (by omega) (by omega)).mp (c2.symm.trans q2)
        rw [← e0] at q3 q4
        exact ⟨k, q3, q4⟩
  · refine ⟨1, fun _ => 0, fun d H V' hu hd hq => ?_, by decide, fun v => ⟨fun ⟨i, i1, i2⟩ => Or.inl ⟨z, i2.symm⟩, fun q => ?_⟩⟩
    · have hri' := keep V' hq
      obtain ⟨r1, r2, r3, -⟩ := id hri'
      exact ⟨mc_choicesN (d := d) hu hd r1 ((hq.1 7).trans h7) ((hq.1 5).trans h5) hn cp1 (by omega) (by omega) ((r3 0 lane (by omega) hn).trans z), fun k hk => mc_choiceN (d := d) (k := k) hu hd r1 ((hq.1 7).trans h7) ((hq.1 5).trans h5) hn cp1 (by omega) (by omega) ((r3 0 lane (by omega) hn).trans z)⟩
    · rcases q with ⟨-, q1⟩ | ⟨c', q1, q2, -⟩
      · exact ⟨0, by decide, q1.symm⟩
      · rw [z] at q2
        exact absurd q2.symm (nI_neg1 (by omega))
end RunPosed
