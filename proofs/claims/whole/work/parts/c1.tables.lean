/-! THE MACHINE: sides get slots, weights; rewind and turn -/
/-- how many of the first n sides a mask has -/
def bcn (mk : Int32) : Nat → Nat
  | 0 => 0
  | n + 1 => bcn mk n + (if mb mk n = 0 then 0 else 1)
def lst (mk : Int32) (s : Ts) : Nat → Ts
  | 0 => s
  | n + 1 => if mb mk n = 0 then ax 22 (lst mk s n) (nI n) 3 (-1) else ax 22 (ax 22 (lst mk s n) (nI n) 3 (-1)) (nI n) 0 (nI (bcn mk n))
/-- what the last n sides that move come to -/
def tqz (mv : Int32) (f : Nat → Nat) : Nat → Nat
  | 0 => 1
  | n + 1 => tqz mv f n * (if mb mv (27 - n) = 0 then 1 else f ((27 - n) % 14))
def wqz (mv : Int32) (f : Nat → Nat) (k : Nat) : Nat := if mb mv k = 0 then 0 else tqz mv f (27 - k)
def wgs (mv : Int32) (f : Nat → Nat) (s : Ts) : Nat → Ts
  | 0 => s
  | n + 1 => wgh (wgs mv f s n) (27 - n) (nI (wqz mv f (27 - n)))
section SideTables
variable {H : mu_H} {m d A W l k n P S0 at0 tot : Nat} {C : Nat → Nat} {U V V1 : Ud} {f sd wt : Nat → Nat} {mk mv : Int32} {s : Ts}
theorem bcn_le (n : Nat) : bcn mk n ≤ n := by
  induction n with
  | zero => exact Nat.le_refl _
  | succ n ih =>
    show bcn mk n + (if mb mk n = 0 then 0 else 1) ≤ n + 1
    split <;> omega
/-- PathProver$Machine.layOutSides()I -/
abbrev mu_m205 : ev_M := (3, (some .int), [], ev_b205)
theorem mu_g205 : mu_good mu_m205 := mu_goodk ev_k205
theorem mc_sides (h : um m H) (e : ud m H = U) (hmk : U.2.1 100 4 = mk) : mu_TI (mu_D (d + 2)) 205 [.inr (.inr (some 100))] H (fun x H1 => x = nI (bcn mk 28) ∧ um m H1 ∧ ur m C H H1 ∧ ud m H1 = upT U (lst mk U.1 28)) := by
  have hbc := fun n => bcn_le (mk := mk) n
  refine mu_meth (M := mu_m205) rfl rfl ?_
  refine mw_ht (mu_fn_of (show [0].Nodup by decide)) ?_
  refine mw_go mu_g205 (k := 4) (f1 := (4, [(2, .inl (0 : Int32)), (1, .inl (0 : Int32)), (0, .inr (.inr (some 100)))], [], H)) (C := []) rfl trivial ?_
  show mu_W _ _ (4, [(2, .inl (nI 0)), (1, .inl (nI (bcn mk 0))), (0, .inr (.inr (some 100)))], [], H) _
  refine mw_sub (L' := [(2, .inl (nI 0)), (1, .inl (nI (bcn mk 0))), (0, .inr (.inr (some 100)))]) (by simp) ?_
  refine mw_down (α := Nat × mu_H) (fun zs => (4, [(2, .inl (nI zs.1)), (1, .inl (nI (bcn mk zs.1))), (0, .inr (.inr (some 100)))], [], zs.2)) (fun zs => 28 - zs.1) (fun zs => um m zs.2 ∧ ur m C H zs.2 ∧ (ud m zs.2 = (upT U (lst mk U.1 zs.1))) ∧ (zs.1 ≤ 28)) (fun zs hza iha => ?_) (0, H) ⟨h, (ur.refl m C H), (show ud m H = (upT U (lst mk U.1 0)) from e), (show 0 ≤ 28 from (by omega))⟩
  obtain ⟨n, Hsa⟩ := zs
  obtain ⟨ua, hta, da, hn⟩ := hza
  have ua : um m Hsa := ua
  have hta : ur m C H Hsa := hta
  have da : ud m Hsa = (upT U (lst mk U.1 n)) := da
  have hn : n ≤ 28 := hn
  show mu_W _ _ (4, [(2, .inl (nI n)), (1, .inl (nI (bcn mk n))), (0, .inr (.inr (some 100)))], [], Hsa) _
  refine mw_go mu_g205 (k := 2) (f1 := (7, [(2, .inl (nI n)), (1, .inl (nI (bcn mk n))), (0, .inr (.inr (some 100)))], [.inl (28 : Int32), .inl (nI n)], Hsa)) (C := []) rfl trivial ?_
  refine mw_if (P := (nI n) < (28 : Int32)) (a := 10) (b := 50) (fun _ => rfl) trivial (fun h1 => ?_) (fun h1 => ?_)
  · -- 10: (nI n) < (28 : Int32)
    have nh1 : n < 28 := (nI_ltI (by omega) (by omega)).mp (show nI n < nI 28 from h1)
    refine mw_go mu_g205 (k := 2) (f1 := (14, [(2, .inl (nI n)), (1, .inl (nI (bcn mk n))), (0, .inr (.inr (some 100)))], [.inr (.inr (mu_r Hsa 100 2))], Hsa)) (C := [mu_is Hsa (some 100) 5]) rfl (show mu_is Hsa (some 100) 5 from (ua.1.1.is rfl)) ?_
    rw [(ua.1.1.r (p := 100) (j := 2) (q := 103) rfl)]
    refine mw_go mu_g205 (k := 3) (f1 := (17, [(2, .inl (nI n)), (1, .inl (nI (bcn mk n))), (0, .inr (.inr (some 100)))], [.inl (-1 : Int32), .inl (3 : Int32), .inl (nI n), .inr (.inr (some 103))], Hsa)) (C := []) rfl trivial ?_
    refine mw_cV (fun _ => rfl) (show mu_is Hsa (some 103) 10 from (ua.1.1.is rfl)) (ua.setr (C := C) (d := d) da (j := 22) (Or.inr ⟨by decide, by decide⟩) rfl (nI n) (-1 : Int32) (c := 3) (by decide)) (fun Q2 q2 => ?_)
    obtain ⟨u2, r2, d2⟩ := q2
    have ht2 : ur m C H Q2 := hta.trans r2
    refine mw_go mu_g205 (k := 2) (f1 := (24, [(2, .inl (nI n)), (1, .inl (nI (bcn mk n))), (0, .inr (.inr (some 100)))], [.inl (mu_i Q2 100 4)], Q2)) (C := [mu_is Q2 (some 100) 5]) rfl (show mu_is Q2 (some 100) 5 from (u2.1.1.is rfl)) ?_
    rw [(show mu_i Q2 100 4 = mk from (ud_i (U := (upT (upT U (lst mk U.1 n)) (ax 22 (upT U (lst mk U.1 n)).1 (nI n) 3 (-1 : Int32)))) (m := m) (P := 100) (j := 4) d2 rfl).trans hmk)]
    refine mw_go mu_g205 (k := 4) (f1 := (28, [(2, .inl (nI n)), (1, .inl (nI (bcn mk n))), (0, .inr (.inr (some 100)))], [.inl (((mk.toUInt32 >>> ((nI n).toUInt32 &&& Int32.toUInt32 31)).toInt32) &&& (1 : Int32))], Q2)) (C := []) rfl trivial ?_
    refine mw_if (P := (((mk.toUInt32 >>> ((nI n).toUInt32 &&& Int32.toUInt32 31)).toInt32) &&& (1 : Int32)) = 0) (a := 44) (b := 31) (fun _ => rfl) trivial (fun h3 => ?_) (fun h3 => ?_)
    · -- 44: (((mk.toUInt32 >>> ((nI n).toUInt32 &&& Int32.toUInt32 31)).toInt32) &&& (1 : Int32)) = 0
      refine mw_go mu_g205 (k := 1) (f1 := (47, [(2, .inl ((nI n) + 1)), (1, .inl (nI (bcn mk n))), (0, .inr (.inr (some 100)))], [], Q2)) (C := []) rfl trivial ?_
      rw [(show ((nI n) + 1) = (nI (n + 1)) from (nI_add n 1))]
      refine mw_go mu_g205 (k := 1) (f1 := (4, [(2, .inl (nI (n + 1))), (1, .inl (nI (bcn mk n))), (0, .inr (.inr (some 100)))], [], Q2)) (C := []) rfl trivial ?_
      rw [show (nI (bcn mk n)) = nI (bcn mk (n + 1)) from congrArg nI (by show _ = bcn mk n + (if mb mk n = 0 then 0 else 1); rw [if_pos (show mb mk n = 0 from h3)]; try rfl)]
      exact mw_sub (by simp) (iha (n + 1, Q2) ⟨u2, ht2, (show ud m Q2 = (upT U (lst mk U.1 (n + 1))) from (by rw [d2]; show upT U _ = upT U (if mb mk n = 0 then ax 22 (lst mk U.1 n) (nI n) 3 (-1) else ax 22 (ax 22 (lst mk U.1 n) (nI n) 3 (-1)) (nI n) 0 (nI (bcn mk n))); rw [if_pos (show mb mk n = 0 from h3)]; rfl)), (show (n + 1) ≤ 28 from (by omega))⟩ (by show 28 - (n + 1) < 28 - n; omega))
    · -- 31: not (((mk.toUInt32 >>> ((nI n).toUInt32 &&& Int32.toUInt32 31)).toInt32) &&& (1 : Int32)) = 0
      refine mw_go mu_g205 (k := 2) (f1 := (35, [(2, .inl (nI n)), (1, .inl (nI (bcn mk n))), (0, .inr (.inr (some 100)))], [.inr (.inr (mu_r Q2 100 2))], Q2)) (C := [mu_is Q2 (some 100) 5]) rfl (show mu_is Q2 (some 100) 5 from (u2.1.1.is rfl)) ?_
      rw [(u2.1.1.r (p := 100) (j := 2) (q := 103) rfl)]
      refine mw_go mu_g205 (k := 3) (f1 := (38, [(2, .inl (nI n)), (1, .inl (nI (bcn mk n))), (0, .inr (.inr (some 100)))], [.inl (nI (bcn mk n)), .inl (0 : Int32), .inl (nI n), .inr (.inr (some 103))], Q2)) (C := []) rfl trivial ?_
      refine mw_cV (fun _ => rfl) (show mu_is Q2 (some 103) 10 from (u2.1.1.is rfl)) (u2.setr (C := C) (d := d) d2 (j := 22) (Or.inr ⟨by decide, by decide⟩) rfl (nI n) (nI (bcn mk n)) (c := 0) (by decide)) (fun Q4 q4 => ?_)
      obtain ⟨u4, r4, d4⟩ := q4
      have ht4 : ur m C H Q4 := ht2.trans r4
      refine mw_go mu_g205 (k := 1) (f1 := (44, [(1, .inl ((nI (bcn mk n)) + 1)), (2, .inl (nI n)), (0, .inr (.inr (some 100)))], [], Q4)) (C := []) rfl trivial ?_
      rw [(show ((nI (bcn mk n)) + 1) = (nI ((bcn mk n) + 1)) from (nI_add (bcn mk n) 1))]
      refine mw_go mu_g205 (k := 1) (f1 := (47, [(2, .inl ((nI n) + 1)), (1, .inl (nI ((bcn mk n) + 1))), (0, .inr (.inr (some 100)))], [], Q4)) (C := []) rfl trivial ?_
      rw [(show ((nI n) + 1) = (nI (n + 1)) from (nI_add n 1))]
      refine mw_go mu_g205 (k := 1) (f1 := (4, [(2, .inl (nI (n + 1))), (1, .inl (nI ((bcn mk n) + 1))), (0, .inr (.inr (some 100)))], [], Q4)) (C := []) rfl trivial ?_
      rw [show (nI ((bcn mk n) + 1)) = nI (bcn mk (n + 1)) from congrArg nI (by show _ = bcn mk n + (if mb mk n = 0 then 0 else 1); rw [if_neg (show ¬ mb mk n = 0 from h3)]; try rfl)]
      exact mw_sub (by simp) (iha (n + 1, Q4) ⟨u4, ht4, (show ud m Q4 = (upT U (lst mk U.1 (n + 1))) from (by rw [d4]; show upT U _ = upT U (if mb mk n = 0 then ax 22 (lst mk U.1 n) (nI n) 3 (-1) else ax 22 (ax 22 (lst mk U.1 n) (nI n) 3 (-1)) (nI n) 0 (nI (bcn mk n))); rw [if_neg (show ¬ mb mk n = 0 from h3)]; rfl)), (show (n + 1) ≤ 28 from (by omega))⟩ (by show 28 - (n + 1) < 28 - n; omega))
  · -- 50: not (nI n) < (28 : Int32)
    have nh1 : ¬ n < 28 := fun z => h1 (show nI n < nI 28 from (nI_ltI (by omega) (by omega)).mpr z)
    refine mw_go mu_g205 (k := 1) (f1 := (51, [(2, .inl (nI n)), (1, .inl (nI (bcn mk n))), (0, .inr (.inr (some 100)))], [.inl (nI (bcn mk n))], Hsa)) (C := []) rfl trivial ?_
    exact mw_of (fun _ => mu_ret rfl trivial ⟨_, Hsa, rfl, (by rw [show n = 28 by omega]), ua, hta, (by rw [da, show n = 28 by omega])⟩)
theorem upI_two {P j : Nat} {a b : Int32} : upI (upI U P j a) P j b = upI U P j b := by
  have e : f2 (f2 U.2.1 P j a) P j b = f2 U.2.1 P j b := by
    funext p i
    unfold f2
    by_cases h : p = P ∧ i = j
    · rw [if_pos h, if_pos h]
    · rw [if_neg h, if_neg h, if_neg h]
  exact congrArg (fun z => (U.1, z, U.2.2)) e
theorem rw_step {X : Int32} {Z : Nat} (hX : X = nI (wqz mv f (27 - n))) (hZ : Z = tqz mv f (n + 1)) : upI (upT (upI (upT U (wgs mv f U.1 n)) 100 20 (nI (tqz mv f n))) (wgh (upI (upT U (wgs mv f U.1 n)) 100 20 (nI (tqz mv f n))).1 (27 - n) X)) 100 20 (nI Z) = upI (upT U (wgs mv f U.1 (n + 1))) 100 20 (nI (tqz mv f (n + 1))) := by
  rw [hX, hZ]
  exact upI_two (U := upT U (wgs mv f U.1 (n + 1)))
theorem tqz_1 (hf : ∀ k, 1 ≤ f k) : 1 ≤ tqz mv f n := by
  induction n with
  | zero => exact Nat.le_refl _
  | succ n ih =>
    show 1 ≤ tqz mv f n * (if mb mv (27 - n) = 0 then 1 else f ((27 - n) % 14))
    split
    · rw [Nat.mul_one]; exact ih
    · exact Nat.mul_le_mul ih (hf _)
theorem tqz_le {N : Nat} (hf : ∀ k, 1 ≤ f k) (h : n ≤ N) : tqz mv f n ≤ tqz mv f N := by
  induction N with
  | zero => rw [Nat.le_zero.mp h]; exact Nat.le_refl _
  | succ N ih =>
    by_cases e : n = N + 1
    · rw [e]; exact Nat.le_refl _
    · refine Nat.le_trans (ih (by omega)) ?_
      show tqz mv f N ≤ tqz mv f N * (if mb mv (27 - N) = 0 then 1 else f ((27 - N) % 14))
      split
      · rw [Nat.mul_one]; exact Nat.le_refl _
      · exact Nat.le_mul_of_pos_right _ (hf _)
/-- PathProver$Machine.rewind(I)I -/
abbrev mu_m207 : ev_M := (4, (some .int), [], ev_b207)
theorem mu_g207 : mu_good mu_m207 := mu_goodk ev_k207
theorem rw_loop {Φ : mu_R → Prop} (h : um m H) (e : ud m H = U) (hS : spx m U P f) (hf1 : ∀ k, 1 ≤ f k) (hmv : ∀ k, k < 28 → ¬ mb mv k = 0 → k % 14 < P) (htq : tqz mv f 28 ≤ 268435456) (hΦ : ∀ Q, um m Q → ur m C H Q → ud m Q = upI (upT U (wgs mv f U.1 28)) 100 20 (nI (tqz mv f 28)) → mu_W (mu_D (d + 2)) mu_m207 (78, [(0, .inr (.inr (some 100))), (1, .inl mv)], [], Q) Φ) : mu_W (mu_D (d + 2)) mu_m207 (0, [(0, .inr (.inr (some 100))), (1, .inl mv)], [], H) Φ := by
  obtain ⟨⟨s4, s10, s11, s12⟩, hk5, ⟨g8, g8b, g18, g18b⟩, ⟨gP, gpd, gsm⟩, hsp, hmo⟩ := hS
  refine mw_go mu_g207 (k := 3) (f1 := (5, [(0, .inr (.inr (some 100))), (1, .inl mv)], [], (mu_si H 100 20 (1 : Int32)))) (C := [mu_is H (some 100) 5]) rfl (show mu_is H (some 100) 5 from (h.1.1.is rfl)) ?_
  obtain ⟨u1, r1, d1⟩ : um m (mu_si H 100 20 (1 : Int32)) ∧ ur m C H (mu_si H 100 20 (1 : Int32)) ∧ ud m (mu_si H 100 20 (1 : Int32)) = (upI U 100 20 (1 : Int32)) := h.sI (C := C) e rfl
  generalize (mu_si H 100 20 (1 : Int32)) = Q1 at u1 r1 d1 ⊢
  have ht1 : ur m C H Q1 := (ur.refl m C H).trans r1
  refine mw_go mu_g207 (k := 2) (f1 := (8, [(2, .inl (27 : Int32)), (0, .inr (.inr (some 100))), (1, .inl mv)], [], Q1)) (C := []) rfl trivial ?_
  show mu_W _ _ (8, [(2, .inl (nI (28 - 0) - (1 : Int32))), (0, .inr (.inr (some 100))), (1, .inl mv)], [], Q1) _
  refine mw_sub (L' := [(2, .inl (nI (28 - 0) - (1 : Int32))), (0, .inr (.inr (some 100))), (1, .inl mv)]) (by simp) ?_
  refine mw_down (α := Nat × mu_H) (fun zs => (8, [(2, .inl (nI (28 - zs.1) - (1 : Int32))), (0, .inr (.inr (some 100))), (1, .inl mv)], [], zs.2)) (fun zs => 28 - zs.1) (fun zs => um m zs.2 ∧ ur m C H zs.2 ∧ (ud m zs.2 = (upI (upT U (wgs mv f U.1 zs.1)) 100 20 (nI (tqz mv f zs.1)))) ∧ (zs.1 ≤ 28)) (fun zs hzb ihb => ?_) (0, Q1) ⟨u1, ht1, (show ud m Q1 = (upI (upT U (wgs mv f U.1 0)) 100 20 (nI (tqz mv f 0))) from d1), (show 0 ≤ 28 from (by omega))⟩
  obtain ⟨n, Hsb⟩ := zs
  obtain ⟨ub, htb, db, hn⟩ := hzb
  have ub : um m Hsb := ub
  have htb : ur m C H Hsb := htb
  have db : ud m Hsb = (upI (upT U (wgs mv f U.1 n)) 100 20 (nI (tqz mv f n))) := db
  have hn : n ≤ 28 := hn
  show mu_W _ _ (8, [(2, .inl (nI (28 - n) - (1 : Int32))), (0, .inr (.inr (some 100))), (1, .inl mv)], [], Hsb) _
  refine mw_go mu_g207 (k := 1) (f1 := (9, [(2, .inl (nI (28 - n) - (1 : Int32))), (0, .inr (.inr (some 100))), (1, .inl mv)], [.inl (nI (28 - n) - (1 : Int32))], Hsb)) (C := []) rfl trivial ?_
  refine mw_if (P := (nI (28 - n) - (1 : Int32)) < 0) (a := 78) (b := 12) (fun _ => rfl) trivial (fun h2 => ?_) (fun h2 => ?_)
  · -- 78: (nI (28 - n) - (1 : Int32)) < 0
    have hn8 : n = 28 := Nat.le_antisymm hn (Nat.le_of_not_lt (fun y => nI_lo1 (a := 28 - n) (by omega) (by omega) h2))
    subst hn8
    exact mw_sub (by simp) (hΦ Hsb ub htb db)
  · -- 12: not (nI (28 - n) - (1 : Int32)) < 0
    have hn8 : n < 28 := Nat.lt_of_le_of_ne hn (fun y => h2 (by rw [y]; decide))
    rw [show nI (28 - n) - (1 : Int32) = nI (27 - n) from (nI_sub (a := 28 - n) (b := 1) (by omega)).trans (congrArg nI (by omega))]
    have ht1 := tqz_le (mv := mv) hf1 (show n ≤ 28 by omega)
    have ht2 := tqz_le (mv := mv) hf1 (show n + 1 ≤ 28 by omega)
    refine mw_go mu_g207 (k := 5) (f1 := (17, [(2, .inl (nI (27 - n))), (0, .inr (.inr (some 100))), (1, .inl mv)], [.inl (((mv.toUInt32 >>> ((nI (27 - n)).toUInt32 &&& Int32.toUInt32 31)).toInt32) &&& (1 : Int32))], Hsb)) (C := []) rfl trivial ?_
    refine mw_if (P := (((mv.toUInt32 >>> ((nI (27 - n)).toUInt32 &&& Int32.toUInt32 31)).toInt32) &&& (1 : Int32)) = 0) (a := 24) (b := 20) (fun _ => rfl) trivial (fun h3 => ?_) (fun h3 => ?_)
    · -- 24: (((mv.toUInt32 >>> ((nI (27 - n)).toUInt32 &&& Int32.toUInt32 31)).toInt32) &&& (1 : Int32)) = 0
      refine mw_go mu_g207 (k := 5) (f1 := (29, [(3, .inl (0 : Int32)), (2, .inl (nI (27 - n))), (0, .inr (.inr (some 100))), (1, .inl mv)], [.inl (0 : Int32), .inl (nI (27 - n)), .inr (.inr (some 100))], Hsb)) (C := []) rfl trivial ?_
      refine mw_if (P := (0 : Int32) = 0) (a := 39) (b := 32) (fun _ => rfl) trivial (fun h4 => ?_) (fun h4 => absurd (by decide) h4)
      refine mw_go mu_g207 (k := 1) (f1 := (40, [(3, .inl (0 : Int32)), (2, .inl (nI (27 - n))), (0, .inr (.inr (some 100))), (1, .inl mv)], [.inl (0 : Int32), .inl (nI (27 - n)), .inr (.inr (some 100))], Hsb)) (C := []) rfl trivial ?_
      refine mw_cV (fun _ => rfl) (show mu_is Hsb (some 100) 5 from (ub.1.1.is rfl)) (mc_weigh (d := d) (C := C) (k := 27 - n) (w := (0 : Int32)) ub db (by omega)) (fun Q5 q5 => ?_)
      obtain ⟨u5, r5, d5⟩ := q5
      have ht5 : ur m C H Q5 := htb.trans r5
      refine mw_go mu_g207 (k := 3) (f1 := (48, [(3, .inl (0 : Int32)), (2, .inl (nI (27 - n))), (0, .inr (.inr (some 100))), (1, .inl mv)], [.inl (mu_i Q5 100 20), .inr (.inr (some 100))], Q5)) (C := [mu_is Q5 (some 100) 5]) rfl (show mu_is Q5 (some 100) 5 from (u5.1.1.is rfl)) ?_
      rw [(show mu_i Q5 100 20 = (nI (tqz mv f n)) from (ud_i (U := (upT (upI (upT U (wgs mv f U.1 n)) 100 20 (nI (tqz mv f n))) (wgh (upI (upT U (wgs mv f U.1 n)) 100 20 (nI (tqz mv f n))).1 (27 - n) (0 : Int32)))) (m := m) (P := 100) (j := 20) d5 rfl))]
      refine mw_go mu_g207 (k := 1) (f1 := (49, [(3, .inl (0 : Int32)), (2, .inl (nI (27 - n))), (0, .inr (.inr (some 100))), (1, .inl mv)], [.inl (0 : Int32), .inl (nI (tqz mv f n)), .inr (.inr (some 100))], Q5)) (C := []) rfl trivial ?_
      refine mw_if (P := (0 : Int32) = 0) (a := 67) (b := 52) (fun _ => rfl) trivial (fun h6 => ?_) (fun h6 => absurd (by decide) h6)
      refine mw_go mu_g207 (k := 2) (f1 := (69, [(3, .inl (0 : Int32)), (2, .inl (nI (27 - n))), (0, .inr (.inr (some 100))), (1, .inl mv)], [.inl ((nI (tqz mv f n)) * (1 : Int32)), .inr (.inr (some 100))], Q5)) (C := []) rfl trivial ?_
      rw [(show ((nI (tqz mv f n)) * (1 : Int32)) = (nI ((tqz mv f n) * 1)) from (nI_mul (a := tqz mv f n) (b := 1)))]
      refine mw_go mu_g207 (k := 1) (f1 := (72, [(3, .inl (0 : Int32)), (2, .inl (nI (27 - n))), (0, .inr (.inr (some 100))), (1, .inl mv)], [], (mu_si Q5 100 20 (nI ((tqz mv f n) * 1))))) (C := [mu_is Q5 (some 100) 5]) rfl (show mu_is Q5 (some 100) 5 from (u5.1.1.is rfl)) ?_
      obtain ⟨u7, r7, d7⟩ : um m (mu_si Q5 100 20 (nI ((tqz mv f n) * 1))) ∧ ur m C Q5 (mu_si Q5 100 20 (nI ((tqz mv f n) * 1))) ∧ ud m (mu_si Q5 100 20 (nI ((tqz mv f n) * 1))) = (upI (upT (upI (upT U (wgs mv f U.1 n)) 100 20 (nI (tqz mv f n))) (wgh (upI (upT U (wgs mv f U.1 n)) 100 20 (nI (tqz mv f n))).1 (27 - n) (0 : Int32))) 100 20 (nI ((tqz mv f n) * 1))) := u5.sI (C := C) d5 rfl
      generalize (mu_si Q5 100 20 (nI ((tqz mv f n) * 1))) = Q7 at u7 r7 d7 ⊢
      have ht7 : ur m C H Q7 := ht5.trans r7
      refine mw_go mu_g207 (k := 2) (f1 := (8, [(2, .inl ((nI (27 - n)) + (-1))), (3, .inl (0 : Int32)), (0, .inr (.inr (some 100))), (1, .inl mv)], [], Q7)) (C := []) rfl trivial ?_
      rw [show nI (27 - n) + (-1) = nI (28 - (n + 1)) - (1 : Int32) from (Int32.sub_eq_add_neg _ _).symm.trans (congrArg (fun z => nI z - 1) (by omega))]
      exact mw_sub (by simp) (ihb (n + 1, Q7) ⟨u7, ht7, (show ud m Q7 = (upI (upT U (wgs mv f U.1 (n + 1))) 100 20 (nI (tqz mv f (n + 1)))) from (by rw [d7]; exact rw_step (congrArg nI (if_pos (show mb mv (27 - n) = 0 from h3))).symm (by show _ = tqz mv f n * (if mb mv (27 - n) = 0 then 1 else f ((27 - n) % 14)); rw [if_pos (show mb mv (27 - n) = 0 from h3)]))), (show (n + 1) ≤ 28 from (by omega))⟩ (by show 28 - (n + 1) < 28 - n; omega))
    · -- 20: not (((mv.toUInt32 >>> ((nI (27 - n)).toUInt32 &&& Int32.toUInt32 31)).toInt32) &&& (1 : Int32)) = 0
      refine mw_go mu_g207 (k := 6) (f1 := (29, [(3, .inl (1 : Int32)), (2, .inl (nI (27 - n))), (0, .inr (.inr (some 100))), (1, .inl mv)], [.inl (1 : Int32), .inl (nI (27 - n)), .inr (.inr (some 100))], Hsb)) (C := []) rfl trivial ?_
      refine mw_if (P := (1 : Int32) = 0) (a := 39) (b := 32) (fun _ => rfl) trivial (fun h8 => absurd h8 (by decide)) (fun h8 => ?_)
      refine mw_go mu_g207 (k := 2) (f1 := (36, [(3, .inl (1 : Int32)), (2, .inl (nI (27 - n))), (0, .inr (.inr (some 100))), (1, .inl mv)], [.inl (mu_i Hsb 100 20), .inl (nI (27 - n)), .inr (.inr (some 100))], Hsb)) (C := [mu_is Hsb (some 100) 5]) rfl (show mu_is Hsb (some 100) 5 from (ub.1.1.is rfl)) ?_
      rw [(show mu_i Hsb 100 20 = (nI (tqz mv f n)) from (ud_i (U := (upI (upT U (wgs mv f U.1 n)) 100 20 (nI (tqz mv f n)))) (m := m) (P := 100) (j := 20) db rfl))]
      refine mw_go mu_g207 (k := 1) (f1 := (40, [(3, .inl (1 : Int32)), (2, .inl (nI (27 - n))), (0, .inr (.inr (some 100))), (1, .inl mv)], [.inl (nI (tqz mv f n)), .inl (nI (27 - n)), .inr (.inr (some 100))], Hsb)) (C := []) rfl trivial ?_
      refine mw_cV (fun _ => rfl) (show mu_is Hsb (some 100) 5 from (ub.1.1.is rfl)) (mc_weigh (d := d) (C := C) (k := 27 - n) (w := (nI (tqz mv f n))) ub db (by omega)) (fun Q9 q9 => ?_)
      obtain ⟨u9, r9, d9⟩ := q9
      have ht9 : ur m C H Q9 := htb.trans r9
      refine mw_go mu_g207 (k := 3) (f1 := (48, [(3, .inl (1 : Int32)), (2, .inl (nI (27 - n))), (0, .inr (.inr (some 100))), (1, .inl mv)], [.inl (mu_i Q9 100 20), .inr (.inr (some 100))], Q9)) (C := [mu_is Q9 (some 100) 5]) rfl (show mu_is Q9 (some 100) 5 from (u9.1.1.is rfl)) ?_
      rw [(show mu_i Q9 100 20 = (nI (tqz mv f n)) from (ud_i (U := (upT (upI (upT U (wgs mv f U.1 n)) 100 20 (nI (tqz mv f n))) (wgh (upI (upT U (wgs mv f U.1 n)) 100 20 (nI (tqz mv f n))).1 (27 - n) (nI (tqz mv f n))))) (m := m) (P := 100) (j := 20) d9 rfl))]
      refine mw_go mu_g207 (k := 1) (f1 := (49, [(3, .inl (1 : Int32)), (2, .inl (nI (27 - n))), (0, .inr (.inr (some 100))), (1, .inl mv)], [.inl (1 : Int32), .inl (nI (tqz mv f n)), .inr (.inr (some 100))], Q9)) (C := []) rfl trivial ?_
      refine mw_if (P := (1 : Int32) = 0) (a := 67) (b := 52) (fun _ => rfl) trivial (fun h10 => absurd h10 (by decide)) (fun h10 => ?_)
      refine mw_go mu_g207 (k := 2) (f1 := (56, [(3, .inl (1 : Int32)), (2, .inl (nI (27 - n))), (0, .inr (.inr (some 100))), (1, .inl mv)], [.inr (.inr (mu_r Q9 100 0)), .inl (nI (tqz mv f n)), .inr (.inr (some 100))], Q9)) (C := [mu_is Q9 (some 100) 5]) rfl (show mu_is Q9 (some 100) 5 from (u9.1.1.is rfl)) ?_
      rw [(show mu_r Q9 100 0 = (some 99) from (ud_q (U := (upT (upI (upT U (wgs mv f U.1 n)) 100 20 (nI (tqz mv f n))) (wgh (upI (upT U (wgs mv f U.1 n)) 100 20 (nI (tqz mv f n))).1 (27 - n) (nI (tqz mv f n))))) (m := m) (P := 100) (j := 0) d9 rfl).trans hsp)]
      refine mw_go mu_g207 (k := 1) (f1 := (59, [(3, .inl (1 : Int32)), (2, .inl (nI (27 - n))), (0, .inr (.inr (some 100))), (1, .inl mv)], [.inr (.inr (mu_r Q9 99 5)), .inl (nI (tqz mv f n)), .inr (.inr (some 100))], Q9)) (C := [mu_is Q9 (some 99) 13]) rfl (show mu_is Q9 (some 99) 13 from (u9.1.1.is rfl)) ?_
      rw [(u9.1.1.r (p := 99) (j := 5) (q := 120) rfl)]
      refine mw_go mu_g207 (k := 3) (f1 := (63, [(3, .inl (1 : Int32)), (2, .inl (nI (27 - n))), (0, .inr (.inr (some 100))), (1, .inl mv)], [.inl ((nI (27 - n)) - (nI (27 - n)) / (14 : Int32) * (14 : Int32)), .inr (.inr (some 120)), .inl (nI (tqz mv f n)), .inr (.inr (some 100))], Q9)) (C := [¬ (14 : Int32) = 0]) rfl (show ¬ (14 : Int32) = 0 from (by decide)) ?_
      rw [(show ((nI (27 - n)) - (nI (27 - n)) / (14 : Int32) * (14 : Int32)) = (nI ((27 - n) % 14)) from (nI_mod (a := 27 - n) (b := 14) (by omega) (by omega)))]
      refine mw_go mu_g207 (k := 1) (f1 := (64, [(3, .inl (1 : Int32)), (2, .inl (nI (27 - n))), (0, .inr (.inr (some 100))), (1, .inl mv)], [.inl (mu_i Q9 120 (nI ((27 - n) % 14)).toNatClampNeg), .inl (nI (tqz mv f n)), .inr (.inr (some 100))], Q9)) (C := [mu_isr Q9 (some 120) 100, vp_in (nI ((27 - n) % 14)) (mu_n Q9 120)]) rfl (show (mu_isr Q9 (some 120) 100) ∧ (vp_in (nI ((27 - n) % 14)) (mu_n Q9 120)) from ⟨((u9.iA d9 rfl rfl ((ud_q (m := m) (P := 99) (j := 5) d9 rfl).symm.trans (u9.1.1.r (p := 99) (j := 5) (q := 120) rfl)))).r, (by rw [show mu_n Q9 120 = 14 from (u9.1.1.a (p := 120) (x := (100, 14)) rfl).2]; exact vp_in_nI (n := (27 - n) % 14) (by omega) (by decide))⟩) ?_
      rw [(show (mu_i Q9 120 (nI ((27 - n) % 14)).toNatClampNeg) = (nI (f ((27 - n) % 14))) from ((congrArg (mu_i Q9 120) (show (nI ((27 - n) % 14)).toNatClampNeg = (27 - n) % 14 from nI_clamp (by omega))).trans (u9.gA d9 rfl rfl ((ud_q (m := m) (P := 99) (j := 5) d9 rfl).symm.trans (u9.1.1.r (p := 99) (j := 5) (q := 120) rfl)))).trans ((congrArg (fun z => z.2 ((27 - n) % 14)) (show (upT (upI (upT U (wgs mv f U.1 n)) 100 20 (nI (tqz mv f n))) (wgh (upI (upT U (wgs mv f U.1 n)) 100 20 (nI (tqz mv f n))).1 (27 - n) (nI (tqz mv f n)))).2.2.1 99 5 = (U.2.2.1 99 5) from rfl)).trans (hk5 ((27 - n) % 14) (hmv (27 - n) (by omega) (show ¬ mb mv (27 - n) = 0 from h3))).1))]
      refine mw_go mu_g207 (k := 2) (f1 := (69, [(3, .inl (1 : Int32)), (2, .inl (nI (27 - n))), (0, .inr (.inr (some 100))), (1, .inl mv)], [.inl ((nI (tqz mv f n)) * (nI (f ((27 - n) % 14)))), .inr (.inr (some 100))], Q9)) (C := []) rfl trivial ?_
      rw [(show ((nI (tqz mv f n)) * (nI (f ((27 - n) % 14)))) = (nI ((tqz mv f n) * (f ((27 - n) % 14)))) from (nI_mul (a := tqz mv f n) (b := f ((27 - n) % 14))))]
      refine mw_go mu_g207 (k := 1) (f1 := (72, [(3, .inl (1 : Int32)), (2, .inl (nI (27 - n))), (0, .inr (.inr (some 100))), (1, .inl mv)], [], (mu_si Q9 100 20 (nI ((tqz mv f n) * (f ((27 - n) % 14))))))) (C := [mu_is Q9 (some 100) 5]) rfl (show mu_is Q9 (some 100) 5 from (u9.1.1.is rfl)) ?_
      obtain ⟨u11, r11, d11⟩ : um m (mu_si Q9 100 20 (nI ((tqz mv f n) * (f ((27 - n) % 14))))) ∧ ur m C Q9 (mu_si Q9 100 20 (nI ((tqz mv f n) * (f ((27 - n) % 14))))) ∧ ud m (mu_si Q9 100 20 (nI ((tqz mv f n) * (f ((27 - n) % 14))))) = (upI (upT (upI (upT U (wgs mv f U.1 n)) 100 20 (nI (tqz mv f n))) (wgh (upI (upT U (wgs mv f U.1 n)) 100 20 (nI (tqz mv f n))).1 (27 - n) (nI (tqz mv f n)))) 100 20 (nI ((tqz mv f n) * (f ((27 - n) % 14))))) := u9.sI (C := C) d9 rfl
      generalize (mu_si Q9 100 20 (nI ((tqz mv f n) * (f ((27 - n) % 14))))) = Q11 at u11 r11 d11 ⊢
      have ht11 : ur m C H Q11 := ht9.trans r11
      refine mw_go mu_g207 (k := 2) (f1 := (8, [(2, .inl ((nI (27 - n)) + (-1))), (3, .inl (1 : Int32)), (0, .inr (.inr (some 100))), (1, .inl mv)], [], Q11)) (C := []) rfl trivial ?_
      rw [show nI (27 - n) + (-1) = nI (28 - (n + 1)) - (1 : Int32) from (Int32.sub_eq_add_neg _ _).symm.trans (congrArg (fun z => nI z - 1) (by omega))]
      exact mw_sub (by simp) (ihb (n + 1, Q11) ⟨u11, ht11, (show ud m Q11 = (upI (upT U (wgs mv f U.1 (n + 1))) 100 20 (nI (tqz mv f (n + 1)))) from (by rw [d11]; exact rw_step (congrArg nI (by unfold wqz; rw [if_neg (show ¬ mb mv (27 - n) = 0 from h3), show 27 - (27 - n) = n by omega])) (by show _ = tqz mv f n * (if mb mv (27 - n) = 0 then 1 else f ((27 - n) % 14)); rw [if_neg (show ¬ mb mv (27 - n) = 0 from h3)]))), (show (n + 1) ≤ 28 from (by omega))⟩ (by show 28 - (n + 1) < 28 - n; omega))
end SideTables
