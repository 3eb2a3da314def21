/-! GRAPH: whether a ring has to be gone round; what may be in it is queued -/
/-- a set of STATES is queued, and around -/
def QUE (V : Ud) (P : Nat → Prop) (T wn tl : Nat) (qu : Nat → Nat) : Prop := V.2.1 147 18 = nI tl ∧ (∀ i, i < tl → (V.2.2.1 147 12).2 i = nI (qu i) ∧ qu i < T) ∧ (∀ i j, i < tl → j < tl → qu i = qu j → i = j) ∧ (∀ t, (∃ i, i < tl ∧ qu i = t) ↔ P t) ∧ (∀ t, t < T → (bts (V.2.2.2.2.1 152) t = true ↔ P t)) ∧ ∀ s, s < 64 * wn → bts (V.2.2.2.2.1 152) s = true → s < T
def QUX (V : Ud) (P : Nat → Prop) (T wn : Nat) : Prop := ∃ tl qu, QUE V P T wn tl qu
def MSI (U : Ud) (pl mb me : Nat → Nat) (k y x t : Nat) : Prop := MSO U pl mb me k y t ∨ ∃ i, mb (pl y) ≤ i ∧ i < x ∧ me i = t ∧ bts (U.2.2.2.2.1 153) t = true
section OpenRing
variable {H : mu_H} {U V : Ud} {m d T R wn ls r k lv ev nf x y t tl s : Nat} {C : Nat → Nat} {rx mb me pl qu : Nat → Nat} {P Q : Nat → Prop}
theorem QUE.room (h : QUE V P T wn tl qu) : tl ≤ T := pig_le T tl qu (fun i hi => (h.2.1 i hi).2) h.2.2.1
theorem QUX.cong (h : QUX V P T wn) (he : ∀ t, P t ↔ Q t) : QUX V Q T wn := by
  obtain ⟨tl, qu, h1, h2, h3, h4, h5, h6⟩ := h
  exact ⟨tl, qu, h1, h2, h3, fun t => (h4 t).trans (he t), fun t ht => (h5 t ht).trans (he t), h6⟩
theorem QUE.same (h : QUE U P T wn tl qu) (e1 : V.2.1 147 18 = U.2.1 147 18) (e2 : V.2.2.1 147 12 = U.2.2.1 147 12) (e3 : V.2.2.2.2.1 152 = U.2.2.2.2.1 152) : QUE V P T wn tl qu := by
  obtain ⟨h1, h2, h3, h4, h5, h6⟩ := h
  exact ⟨e1.trans h1, by rw [e2]; exact h2, h3, h4, by rw [e3]; exact h5, by rw [e3]; exact h6⟩
theorem QUE.push (h : QUE U P T wn tl qu) (hs : s < T) (hT : T ≤ 16384) (hn : ¬ P s) (hq : ∀ t, Q t ↔ P t ∨ t = s) : QUE (upI (upA (upL U 152 (s / 64) ((U.2.2.2.2.1 152) (s / 64) ||| ((1 : Int64) <<< ((nI s).toInt64 &&& 63)))) 147 12 tl (nI s)) 147 18 (nI (tl + 1))) Q T wn (tl + 1) (fun i => if i = tl then s else qu i) := by
  obtain ⟨h1, h2, h3, h4, h5, h6⟩ := h
  have hb : ∀ t, bts ((upI (upA (upL U 152 (s / 64) ((U.2.2.2.2.1 152) (s / 64) ||| ((1 : Int64) <<< ((nI s).toInt64 &&& 63)))) 147 12 tl (nI s)) 147 18 (nI (tl + 1))).2.2.2.2.1 152) t = true ↔ bts (U.2.2.2.2.1 152) t = true ∨ t = s := fun t => by
    show bts ((upL U 152 (s / 64) ((U.2.2.2.2.1 152) (s / 64) ||| ((1 : Int64) <<< ((nI s).toInt64 &&& 63)))).2.2.2.2.1 152) t = true ↔ _
    rw [upL_at, bts_seton (by omega)]
  refine ⟨rfl, fun i hi => ?_, fun i j hi hj he => ?_, fun t => ?_, fun t ht => ?_, fun t ht hx => ?_⟩
  · show (if i = tl then nI s else (U.2.2.1 147 12).2 i) = nI (if i = tl then s else qu i) ∧ (if i = tl then s else qu i) < T
    by_cases y : i = tl
    · rw [if_pos y, if_pos y]; exact ⟨rfl, hs⟩
    · rw [if_neg y, if_neg y]; exact h2 i (by omega)
  · have he : (if i = tl then s else qu i) = (if j = tl then s else qu j) := he
    by_cases y : i = tl <;> by_cases z : j = tl
    · omega
    · rw [if_pos y, if_neg z] at he
      exact absurd ((h4 s).mp ⟨j, by omega, he.symm⟩) hn
    · rw [if_neg y, if_pos z] at he
      exact absurd ((h4 s).mp ⟨i, by omega, he⟩) hn
    · rw [if_neg y, if_neg z] at he
      exact h3 i j (by omega) (by omega) he
  · rw [hq t, ← h4 t]
    constructor
    · rintro ⟨i, i1, i2⟩
      have i2 : (if i = tl then s else qu i) = t := i2
      by_cases y : i = tl
      · rw [if_pos y] at i2
        exact Or.inr i2.symm
      · rw [if_neg y] at i2
        exact Or.inl ⟨i, by omega, i2⟩
    · rintro (⟨i, i1, i2⟩ | y)
      · exact ⟨i, by omega, by show (if i = tl then s else qu i) = t; rw [if_neg (by omega)]; exact i2⟩
      · exact ⟨tl, by omega, by show (if tl = tl then s else qu tl) = t; rw [if_pos rfl]; exact y.symm⟩
  · rw [hb t, hq t, h5 t ht]
  · rcases (hb t).mp hx with y | y
    · exact h6 t ht y
    · omega
theorem QUX.zero (h0 : ∀ i, i < wn → V.2.2.2.2.1 152 i = 0) (hT : T ≤ 64 * wn) (h18 : V.2.1 147 18 = 0) (hP : ∀ t, ¬ P t) : QUX V P T wn := by
  have hb : ∀ t, t < 64 * wn → ¬ bts (V.2.2.2.2.1 152) t = true := fun t ht z => by
    unfold bts at z
    rw [h0 _ (by omega), btz_0] at z
    cases z
  exact ⟨0, fun _ => 0, h18, fun i hi => absurd hi (Nat.not_lt_zero i), fun i j hi => absurd hi (Nat.not_lt_zero i), fun t => ⟨fun ⟨i, hi, _⟩ => absurd hi (Nat.not_lt_zero i), fun z => absurd z (hP t)⟩, fun t ht => ⟨fun z => absurd z (hb t (by omega)), fun z => absurd z (hP t)⟩, fun s hs z => absurd z (hb s hs)⟩
theorem msi_start : MSI U pl mb me k y (mb (pl y)) t ↔ MSO U pl mb me k y t := ⟨fun z => z.resolve_right (fun ⟨i, h1, h2, _⟩ => absurd h2 (by omega)), fun z => Or.inl z⟩
theorem msi_end (hk : k ≤ y) (hx : x = mb (pl y + 1)) : MSI U pl mb me k y x t ↔ MSO U pl mb me k (y + 1) t := by
  rw [mso_step hk, hx]
  exact Iff.rfl
theorem msi_no (hA : bts (U.2.2.2.2.1 153) (me x) = false) : MSI U pl mb me k y x t ↔ MSI U pl mb me k y (x + 1) t := by
  unfold MSI
  rw [mem_no (A := fun t => bts (U.2.2.2.2.1 153) t = true) (me := me) (a := mb (pl y)) (x := x) (t := t) (fun z => by have z : bts (U.2.2.2.2.1 153) (me x) = true := z; rw [hA] at z; cases z)]
theorem msi_yes (hx : mb (pl y) ≤ x) (hA : bts (U.2.2.2.2.1 153) (me x) = true) : MSI U pl mb me k y (x + 1) t ↔ MSI U pl mb me k y x t ∨ t = me x := by
  unfold MSI
  exact (mem_on (A := fun t => bts (U.2.2.2.2.1 153) t = true) hx hA).symm
theorem msi_new (hM : MBP T R rx mb me) (hp : ∀ i, i < ls → pl i < R) (hi : ∀ i j, i < ls → j < ls → pl i = pl j → i = j) (hy : y < ls) (hx1 : mb (pl y) ≤ x) (hx2 : x < mb (pl y + 1)) : ¬ MSI U pl mb me k y x (me x) := by
  obtain ⟨m1, m2, m3, m4⟩ := hM
  have hxT := (m1 _ (hp y hy)).2
  rintro (⟨i0, i, y1, y2, y3, y4, y5, y6⟩ | ⟨i, y1, y2, y3, y4⟩)
  · have hiT := (m1 _ (hp i0 (by omega))).2
    have e := m4 i x (by omega) (by omega) y5
    have e1 := m2 _ i (hp i0 (by omega)) y3 y4
    have e2 := m2 _ x (hp y hy) hx1 hx2
    rw [e] at e1
    have := hi i0 y (by omega) hy (e1.symm.trans e2)
    omega
  · have := m4 i x (by omega) (by omega) y3
    omega
def F329 : Uf := ⟨[], [(147, 18)], [(147, 12)], [], [152], false⟩
def F329a : Uf := ⟨[], [(147, 18)], [(147, 12)], [], [152], false⟩
def F329b : Uf := ⟨[], [(147, 18)], [(147, 12)], [], [152], false⟩
/-- PathProver$Graph.isOpenRing(I)Z -/
abbrev mu_m329 : ev_M := (7, (some .boolean), [], ev_b329)
theorem mu_g329 : mu_good mu_m329 := mu_goodk ev_k329
theorem gr_openRing (h : um m H) (e : ud m H = U) (hG : GRB U T R wn rx mb me) (hls : U.2.1 147 21 = nI ls) (hlsb : ls ≤ T + 1) (hpl : ∀ i, i < ls → (U.2.2.1 147 10).2 (i * 7 + 6) = nI (pl i) ∧ pl i < R) (hinj : ∀ i j, i < ls → j < ls → pl i = pl j → i = j) (hr : r < R) (hk1 : k < ls) (hk2 : pl k = r) (hk3 : ∀ i, k < i → i < ls → ¬ pl i = r) (hlv : (U.2.2.1 147 10).2 (r * 7 + 4) = nI lv) (hlv4 : lv < 4) (hev : U.2.1 147 9 = nI ev) (hev1 : ev ≤ 1) (hnf : U.2.1 99 19 = nI nf) (hnfb : nf ≤ 600000) : mu_TI (mu_D (d + 3)) 329 [.inr (.inr (some 147)), .inl (nI r)] H (fun x H1 => um m H1 ∧ ur m C H H1 ∧ ((x = 0 ∧ ud m H1 = U ∧ (lv % 2 = 1 ∨ ev = 0 ∨ ¬ (¬ pl (ls - 1) = r ∨ 2 ≤ lv))) ∨ (x = 0 ∧ ud m H1 = upA U 147 10 (r * 7 + 4) (nI (lv + 1)) ∧ lv % 2 = 0 ∧ ¬ ev = 0 ∧ (¬ pl (ls - 1) = r ∨ 2 ≤ lv) ∧ nf = 0) ∨ (x = 1 ∧ lv % 2 = 0 ∧ ¬ ev = 0 ∧ (¬ pl (ls - 1) = r ∨ 2 ≤ lv) ∧ ¬ nf = 0 ∧ uq F329 U (ud m H1) ∧ ∃ tl qu, QUE (ud m H1) (fun t => t < T ∧ bts (U.2.2.2.2.1 153) t = true ∧ SCC pl k ls (rx t)) T wn tl qu))) := by
  obtain ⟨⟨⟨hg12, hg11⟩, hgwn, hTb⟩, ⟨⟨g6a, g6b⟩, hrx⟩, ⟨hRT, g10a, g10b⟩, ⟨g11a, g11b⟩, ⟨g12a, g12b⟩, ⟨g13a, g13b⟩, hmb, hme, hmp1, hmp2, hmp3, hmp4⟩ := id hG
  have hwnb : wn ≤ 256 := by omega
  refine mu_meth (M := mu_m329) rfl rfl ?_
  refine mw_ht (mu_fn_of (show [0, 1].Nodup by decide)) ?_
  refine mw_go mu_g329 (k := 3) (f1 := (3, [(0, .inr (.inr (some 147))), (1, .inl (nI r))], [.inl (4 : Int32), .inl (nI r), .inr (.inr (some 147))], H)) (C := []) rfl trivial ?_
  refine mw_cIe (fun _ => rfl) (show mu_is H (some 147) 2 from (h.1.1.is rfl)) (gr_node (d := (d + 1)) (r := r) (c := 4) h e (by omega) (by omega)) ?_
  rw [show (U.2.2.1 147 10).2 (r * 7 + 4) = nI lv from (by exact hlv)]
  refine mw_go mu_g329 (k := 4) (f1 := (12, [(2, .inl (nI lv)), (0, .inr (.inr (some 147))), (1, .inl (nI r))], [.inl (mu_i H 147 21), .inr (.inr (some 147))], H)) (C := [mu_is H (some 147) 2]) rfl (show mu_is H (some 147) 2 from (h.1.1.is rfl)) ?_
  rw [(show mu_i H 147 21 = (nI ls) from (ud_i (U := U) (m := m) (P := 147) (j := 21) e rfl).trans hls)]
  refine mw_go mu_g329 (k := 2) (f1 := (14, [(2, .inl (nI lv)), (0, .inr (.inr (some 147))), (1, .inl (nI r))], [.inl ((nI ls) - (1 : Int32)), .inr (.inr (some 147))], H)) (C := []) rfl trivial ?_
  rw [(show ((nI ls) - (1 : Int32)) = (nI (ls - 1)) from (nI_sub (a := ls) (b := 1) (by omega)))]
  refine mw_go mu_g329 (k := 1) (f1 := (16, [(2, .inl (nI lv)), (0, .inr (.inr (some 147))), (1, .inl (nI r))], [.inl (6 : Int32), .inl (nI (ls - 1)), .inr (.inr (some 147))], H)) (C := []) rfl trivial ?_
  refine mw_cIe (fun _ => rfl) (show mu_is H (some 147) 2 from (h.1.1.is rfl)) (gr_node (d := (d + 1)) (r := ls - 1) (c := 6) h e (by omega) (by omega)) ?_
  rw [show (U.2.2.1 147 10).2 ((ls - 1) * 7 + 6) = nI (pl (ls - 1)) from (by exact (hpl (ls - 1) (by omega)).1)]
  have hpl0 : pl (ls - 1) < R := (hpl (ls - 1) (by omega)).2
  refine mw_go mu_g329 (k := 1) (f1 := (20, [(2, .inl (nI lv)), (0, .inr (.inr (some 147))), (1, .inl (nI r))], [.inl (nI r), .inl (nI (pl (ls - 1)))], H)) (C := []) rfl trivial ?_
  refine mw_if (P := (nI (pl (ls - 1))) = (nI r)) (a := 23) (b := 29) (fun _ => rfl) trivial (fun h3 => ?_) (fun h3 => ?_)
  · -- 23: (nI (pl (ls - 1))) = (nI r)
    have nh3 : (pl (ls - 1)) = r := (nI_eq (by omega) (by omega)).mp (show nI (pl (ls - 1)) = nI r from h3)
    refine mw_go mu_g329 (k := 3) (f1 := (26, [(2, .inl (nI lv)), (0, .inr (.inr (some 147))), (1, .inl (nI r))], [.inl ((nI lv) &&& (2 : Int32))], H)) (C := []) rfl trivial ?_
    refine mw_if (P := ((nI lv) &&& (2 : Int32)) = 0) (a := 33) (b := 29) (fun _ => rfl) trivial (fun h4 => ?_) (fun h4 => ?_)
    · -- 33: ((nI lv) &&& (2 : Int32)) = 0
      have hl2 : ¬ 2 ≤ lv := (and42 lv hlv4).mp h4
      refine mw_go mu_g329 (k := 5) (f1 := (38, [(3, .inl (0 : Int32)), (2, .inl (nI lv)), (0, .inr (.inr (some 147))), (1, .inl (nI r))], [.inl ((nI lv) &&& (1 : Int32))], H)) (C := []) rfl trivial ?_
      refine mw_if (P := ((nI lv) &&& (1 : Int32)) = 0) (a := 41) (b := 52) (fun _ => rfl) trivial (fun h5 => ?_) (fun h5 => ?_)
      · -- 41: ((nI lv) &&& (1 : Int32)) = 0
        have hl1 : ¬ lv % 2 = 1 := (and41 lv hlv4).mp h5
        refine mw_go mu_g329 (k := 2) (f1 := (45, [(3, .inl (0 : Int32)), (2, .inl (nI lv)), (0, .inr (.inr (some 147))), (1, .inl (nI r))], [.inl (mu_i H 147 9)], H)) (C := [mu_is H (some 147) 2]) rfl (show mu_is H (some 147) 2 from (h.1.1.is rfl)) ?_
        rw [(show mu_i H 147 9 = (nI ev) from (ud_i (U := U) (m := m) (P := 147) (j := 9) e rfl).trans hev)]
        refine mw_if (P := (nI ev) = 0) (a := 52) (b := 48) (fun _ => rfl) trivial (fun h6 => ?_) (fun h6 => ?_)
        · -- 52: (nI ev) = 0
          have nh6 : ev = 0 := (nI_eq (by omega) (by omega)).mp (show nI ev = nI 0 from h6)
          refine mw_go mu_g329 (k := 1) (f1 := (53, [(3, .inl (0 : Int32)), (2, .inl (nI lv)), (0, .inr (.inr (some 147))), (1, .inl (nI r))], [.inl (0 : Int32)], H)) (C := []) rfl trivial ?_
          refine mw_of (fun _ => mu_ret rfl (Or.inl rfl) ⟨_, H, rfl, h, (ur.refl m C H), Or.inl ⟨rfl, e, by omega⟩⟩)
        · -- 48: not (nI ev) = 0
          have nh6 : ¬ ev = 0 := fun z => h6 (show nI ev = nI 0 from (nI_eq (by omega) (by omega)).mpr z)
          refine mw_go mu_g329 (k := 1) (f1 := (49, [(3, .inl (0 : Int32)), (2, .inl (nI lv)), (0, .inr (.inr (some 147))), (1, .inl (nI r))], [.inl (0 : Int32)], H)) (C := []) rfl trivial ?_
          refine mw_if (P := (0 : Int32) = 0) (a := 52) (b := 54) (fun _ => rfl) trivial (fun h7 => ?_) (fun h7 => absurd (by decide) h7)
          refine mw_go mu_g329 (k := 1) (f1 := (53, [(3, .inl (0 : Int32)), (2, .inl (nI lv)), (0, .inr (.inr (some 147))), (1, .inl (nI r))], [.inl (0 : Int32)], H)) (C := []) rfl trivial ?_
          refine mw_of (fun _ => mu_ret rfl (Or.inl rfl) ⟨_, H, rfl, h, (ur.refl m C H), Or.inl ⟨rfl, e, by omega⟩⟩)
      · -- 52: not ((nI lv) &&& (1 : Int32)) = 0
        have hl1 : lv % 2 = 1 := Classical.byContradiction (fun z => h5 ((and41 lv hlv4).mpr z))
        refine mw_go mu_g329 (k := 1) (f1 := (53, [(3, .inl (0 : Int32)), (2, .inl (nI lv)), (0, .inr (.inr (some 147))), (1, .inl (nI r))], [.inl (0 : Int32)], H)) (C := []) rfl trivial ?_
        refine mw_of (fun _ => mu_ret rfl (Or.inl rfl) ⟨_, H, rfl, h, (ur.refl m C H), Or.inl ⟨rfl, e, by omega⟩⟩)
    · -- 29: not ((nI lv) &&& (2 : Int32)) = 0
      have hl2 : 2 ≤ lv := Classical.byContradiction (fun z => h4 ((and42 lv hlv4).mpr z))
      refine mw_go mu_g329 (k := 6) (f1 := (38, [(3, .inl (1 : Int32)), (2, .inl (nI lv)), (0, .inr (.inr (some 147))), (1, .inl (nI r))], [.inl ((nI lv) &&& (1 : Int32))], H)) (C := []) rfl trivial ?_
      refine mw_if (P := ((nI lv) &&& (1 : Int32)) = 0) (a := 41) (b := 52) (fun _ => rfl) trivial (fun h8 => ?_) (fun h8 => ?_)
      · -- 41: ((nI lv) &&& (1 : Int32)) = 0
        have hl1 : ¬ lv % 2 = 1 := (and41 lv hlv4).mp h8
        refine mw_go mu_g329 (k := 2) (f1 := (45, [(3, .inl (1 : Int32)), (2, .inl (nI lv)), (0, .inr (.inr (some 147))), (1, .inl (nI r))], [.inl (mu_i H 147 9)], H)) (C := [mu_is H (some 147) 2]) rfl (show mu_is H (some 147) 2 from (h.1.1.is rfl)) ?_
        rw [(show mu_i H 147 9 = (nI ev) from (ud_i (U := U) (m := m) (P := 147) (j := 9) e rfl).trans hev)]
        refine mw_if (P := (nI ev) = 0) (a := 52) (b := 48) (fun _ => rfl) trivial (fun h9 => ?_) (fun h9 => ?_)
        · -- 52: (nI ev) = 0
          have nh9 : ev = 0 := (nI_eq (by omega) (by omega)).mp (show nI ev = nI 0 from h9)
          refine mw_go mu_g329 (k := 1) (f1 := (53, [(3, .inl (1 : Int32)), (2, .inl (nI lv)), (0, .inr (.inr (some 147))), (1, .inl (nI r))], [.inl (0 : Int32)], H)) (C := []) rfl trivial ?_
          refine mw_of (fun _ => mu_ret rfl (Or.inl rfl) ⟨_, H, rfl, h, (ur.refl m C H), Or.inl ⟨rfl, e, by omega⟩⟩)
        · -- 48: not (nI ev) = 0
          have nh9 : ¬ ev = 0 := fun z => h9 (show nI ev = nI 0 from (nI_eq (by omega) (by omega)).mpr z)
          refine mw_go mu_g329 (k := 1) (f1 := (49, [(3, .inl (1 : Int32)), (2, .inl (nI lv)), (0, .inr (.inr (some 147))), (1, .inl (nI r))], [.inl (1 : Int32)], H)) (C := []) rfl trivial ?_
          refine mw_if (P := (1 : Int32) = 0) (a := 52) (b := 54) (fun _ => rfl) trivial (fun h10 => absurd h10 (by decide)) (fun h10 => ?_)
          refine mw_go mu_g329 (k := 2) (f1 := (58, [(3, .inl (1 : Int32)), (2, .inl (nI lv)), (0, .inr (.inr (some 147))), (1, .inl (nI r))], [.inr (.inr (mu_r H 147 0))], H)) (C := [mu_is H (some 147) 2]) rfl (show mu_is H (some 147) 2 from (h.1.1.is rfl)) ?_
          rw [(h.1.1.r (p := 147) (j := 0) (q := 99) rfl)]
          refine mw_go mu_g329 (k := 1) (f1 := (61, [(3, .inl (1 : Int32)), (2, .inl (nI lv)), (0, .inr (.inr (some 147))), (1, .inl (nI r))], [.inl (mu_i H 99 19)], H)) (C := [mu_is H (some 99) 13]) rfl (show mu_is H (some 99) 13 from (h.1.1.is rfl)) ?_
          rw [(show mu_i H 99 19 = (nI nf) from (ud_i (U := U) (m := m) (P := 99) (j := 19) e rfl).trans hnf)]
          refine mw_if (P := (nI nf) = 0) (a := 64) (b := 75) (fun _ => rfl) trivial (fun h11 => ?_) (fun h11 => ?_)
          · -- 64: (nI nf) = 0
            have nh11 : nf = 0 := (nI_eq (by omega) (by omega)).mp (show nI nf = nI 0 from h11)
            refine mw_go mu_g329 (k := 6) (f1 := (70, [(3, .inl (1 : Int32)), (2, .inl (nI lv)), (0, .inr (.inr (some 147))), (1, .inl (nI r))], [.inl ((nI lv) ||| (1 : Int32)), .inl (4 : Int32), .inl (nI r), .inr (.inr (some 147))], H)) (C := []) rfl trivial ?_
            rw [show ((nI lv) ||| (1 : Int32)) = nI (lv + 1) from (or41 lv hlv4).trans (congrArg nI (if_pos (by omega)))]
            refine mw_cV (fun _ => rfl) (show mu_is H (some 147) 2 from (h.1.1.is rfl)) (gr_set (d := (d + 1)) (C := C) (r := r) (c := 4) (v := (nI (lv + 1))) h e (by omega) (by omega)) (fun Q12 q12 => ?_)
            obtain ⟨u12, r12, d12⟩ := q12
            have ht12 : ur m C H Q12 := (ur.refl m C H).trans r12
            refine mw_go mu_g329 (k := 1) (f1 := (74, [(3, .inl (1 : Int32)), (2, .inl (nI lv)), (0, .inr (.inr (some 147))), (1, .inl (nI r))], [.inl (0 : Int32)], Q12)) (C := []) rfl trivial ?_
            exact mw_of (fun _ => mu_ret rfl (Or.inl rfl) ⟨_, Q12, rfl, u12, ht12, Or.inr (Or.inl ⟨rfl, d12, by omega, by omega, by omega, by omega⟩)⟩)
          · -- 75: not (nI nf) = 0
            have nh11 : ¬ nf = 0 := fun z => h11 (show nI nf = nI 0 from (nI_eq (by omega) (by omega)).mpr z)
            refine mw_go mu_g329 (k := 2) (f1 := (79, [(3, .inl (1 : Int32)), (2, .inl (nI lv)), (0, .inr (.inr (some 147))), (1, .inl (nI r))], [.inr (.inr (mu_r H 147 6))], H)) (C := [mu_is H (some 147) 2]) rfl (show mu_is H (some 147) 2 from (h.1.1.is rfl)) ?_
            rw [(h.1.1.r (p := 147) (j := 6) (q := 152) rfl)]
            refine mw_go mu_g329 (k := 3) (f1 := (84, [(3, .inl (1 : Int32)), (2, .inl (nI lv)), (0, .inr (.inr (some 147))), (1, .inl (nI r))], [.inr (.inr (mu_r H 147 0)), .inl (0 : Int32), .inr (.inr (some 152))], H)) (C := [mu_is H (some 147) 2]) rfl (show mu_is H (some 147) 2 from (h.1.1.is rfl)) ?_
            rw [(h.1.1.r (p := 147) (j := 0) (q := 99) rfl)]
            refine mw_go mu_g329 (k := 1) (f1 := (87, [(3, .inl (1 : Int32)), (2, .inl (nI lv)), (0, .inr (.inr (some 147))), (1, .inl (nI r))], [.inl (mu_i H 99 12), .inl (0 : Int32), .inr (.inr (some 152))], H)) (C := [mu_is H (some 99) 13]) rfl (show mu_is H (some 99) 13 from (h.1.1.is rfl)) ?_
            rw [(show mu_i H 99 12 = (nI wn) from (ud_i (U := U) (m := m) (P := 99) (j := 12) e rfl).trans hg12)]
            refine mw_go mu_g329 (k := 1) (f1 := (88, [(3, .inl (1 : Int32)), (2, .inl (nI lv)), (0, .inr (.inr (some 147))), (1, .inl (nI r))], [.inr (.inl (0 : Int64)), .inl (nI wn), .inl (0 : Int32), .inr (.inr (some 152))], H)) (C := []) rfl trivial ?_
            refine mw_cV (fun _ => rfl) trivial ((ar_fillL_ok (d := d) (v := (0 : Int64)) (a := 0) (b := wn) ((h.1.1.a (p := 152) (x := (102, 256)) rfl).1) (by omega) (by rw [show mu_n H (mu_p (some 152)) = 256 from (h.1.1.a (p := 152) (x := (102, 256)) rfl).2]; omega) (by rw [show mu_n H (mu_p (some 152)) = 256 from (h.1.1.a (p := 152) (x := (102, 256)) rfl).2]; decide)).imp (fun Hx qx => show um m Hx ∧ ur m C H Hx ∧ ud m Hx = (upM U 152 0 (fun _ => (0 : Int64)) (wn - 0)) by rw [qx]; exact h.fL (C := C) e rfl)) (fun Q13 q13 => ?_)
            obtain ⟨u13, r13, d13⟩ := q13
            have ht13 : ur m C H Q13 := (ur.refl m C H).trans r13
            refine mw_go mu_g329 (k := 3) (f1 := (96, [(3, .inl (1 : Int32)), (2, .inl (nI lv)), (0, .inr (.inr (some 147))), (1, .inl (nI r))], [], (mu_si Q13 147 18 (0 : Int32)))) (C := [mu_is Q13 (some 147) 2]) rfl (show mu_is Q13 (some 147) 2 from (u13.1.1.is rfl)) ?_
            obtain ⟨u14, r14, d14⟩ : um m (mu_si Q13 147 18 (0 : Int32)) ∧ ur m C Q13 (mu_si Q13 147 18 (0 : Int32)) ∧ ud m (mu_si Q13 147 18 (0 : Int32)) = (upI (upM U 152 0 (fun _ => (0 : Int64)) (wn - 0)) 147 18 (0 : Int32)) := u13.sI (C := C) d13 rfl
            generalize (mu_si Q13 147 18 (0 : Int32)) = Q14 at u14 r14 d14 ⊢
            have ht14 : ur m C H Q14 := ht13.trans r14
            refine mw_go mu_g329 (k := 2) (f1 := (98, [(3, .inl (1 : Int32)), (2, .inl (nI lv)), (0, .inr (.inr (some 147))), (1, .inl (nI r))], [.inl (nI r), .inr (.inr (some 147))], Q14)) (C := []) rfl trivial ?_
            refine mw_cIe (fun _ => rfl) (show mu_is Q14 (some 147) 2 from (u14.1.1.is rfl)) (gr_ring (d := d) (ps := ls) (pl := pl) (r := r) (q := k) u14 d14 (hls) (by (rw [(show ((upI (upM U 152 0 (fun _ => (0 : Int64)) (wn - 0)) 147 18 (0 : Int32)).2.2.1 147 10).1 = (U.2.2.1 147 10).1 from rfl)]; omega)) (by (rw [(show ((upI (upM U 152 0 (fun _ => (0 : Int64)) (wn - 0)) 147 18 (0 : Int32)).2.2.1 147 10).1 = (U.2.2.1 147 10).1 from rfl)]; omega)) (fun i hi => by rw [(show ((upI (upM U 152 0 (fun _ => (0 : Int64)) (wn - 0)) 147 18 (0 : Int32)).2.2.1 147 10) = (U.2.2.1 147 10) from rfl)]; exact ⟨(hpl i hi).1, by have := (hpl i hi).2; omega⟩) (by omega) hk1 hk2 hk3) ?_
            refine mw_go mu_g329 (k := 1) (f1 := (103, [(4, .inl (nI k)), (3, .inl (1 : Int32)), (2, .inl (nI lv)), (0, .inr (.inr (some 147))), (1, .inl (nI r))], [], Q14)) (C := []) rfl trivial ?_
            refine mw_sub (L' := [(4, .inl (nI k)), (0, .inr (.inr (some 147))), (1, .inl (nI r))]) (by simp) ?_
            refine mw_down (α := Nat × mu_H) (fun zs => (103, [(4, .inl (nI zs.1)), (0, .inr (.inr (some 147))), (1, .inl (nI r))], [], zs.2)) (fun zs => ls - zs.1) (fun zs => um m zs.2 ∧ ur m C H zs.2 ∧ (uq F329a (upI (upM U 152 0 (fun _ => (0 : Int64)) (wn - 0)) 147 18 (0 : Int32)) (ud m zs.2)) ∧ (k ≤ zs.1 ∧ zs.1 ≤ ls) ∧ (QUX (ud m zs.2) (MSO U pl mb me k zs.1) T wn)) (fun zs hza iha => ?_) (k, Q14) ⟨u14, ht14, (show uq F329a (upI (upM U 152 0 (fun _ => (0 : Int64)) (wn - 0)) 147 18 (0 : Int32)) (ud m Q14) from by rw [d14]; exact uq.refl _ _), (show k ≤ k ∧ k ≤ ls from ⟨Nat.le_refl _, by omega⟩), (show QUX (ud m Q14) (MSO U pl mb me k k) T wn from by rw [d14]; exact (QUX.zero (fun i hi => (by show (if 152 = 152 ∧ 0 ≤ i ∧ i < 0 + (wn - 0) then (0 : Int64) else U.2.2.2.2.1 152 i) = 0; rw [if_pos ⟨rfl, by omega, by omega⟩])) (by omega) rfl (fun t => mso_none)))⟩
            obtain ⟨y, Hsa⟩ := zs
            obtain ⟨ua, hta, da, hy, hQa⟩ := hza
            have ua : um m Hsa := ua
            have hta : ur m C H Hsa := hta
            have zza : uq F329a (upI (upM U 152 0 (fun _ => (0 : Int64)) (wn - 0)) 147 18 (0 : Int32)) (ud m Hsa) := da
            have hy : k ≤ y ∧ y ≤ ls := hy
            have hQa : QUX (ud m Hsa) (MSO U pl mb me k y) T wn := hQa
            obtain ⟨Va, da⟩ : ∃ V, ud m Hsa = V := ⟨_, rfl⟩
            rw [da] at zza hQa
            show mu_W _ _ (103, [(4, .inl (nI y)), (0, .inr (.inr (some 147))), (1, .inl (nI r))], [], Hsa) _
            refine mw_go mu_g329 (k := 3) (f1 := (109, [(4, .inl (nI y)), (0, .inr (.inr (some 147))), (1, .inl (nI r))], [.inl (mu_i Hsa 147 21), .inl (nI y)], Hsa)) (C := [mu_is Hsa (some 147) 2]) rfl (show mu_is Hsa (some 147) 2 from (ua.1.1.is rfl)) ?_
            rw [(show mu_i Hsa 147 21 = (nI ls) from (ud_i (U := Va) (m := m) (P := 147) (j := 21) da rfl).trans ((zza.i 147 21 rfl).trans hls))]
            refine mw_if (P := (nI y) < (nI ls)) (a := 112) (b := 227) (fun _ => rfl) trivial (fun h16 => ?_) (fun h16 => ?_)
            · -- 112: (nI y) < (nI ls)
              have nh16 : y < ls := (nI_ltI (by omega) (by omega)).mp (show nI y < nI ls from h16)
              refine mw_go mu_g329 (k := 3) (f1 := (117, [(4, .inl (nI y)), (0, .inr (.inr (some 147))), (1, .inl (nI r))], [.inl (6 : Int32), .inl (nI y), .inr (.inr (some 147))], Hsa)) (C := []) rfl trivial ?_
              refine mw_cIe (fun _ => rfl) (show mu_is Hsa (some 147) 2 from (ua.1.1.is rfl)) (gr_node (d := (d + 1)) (r := y) (c := 6) ua da (by (rw [(show (Va.2.2.1 147 10).1 = (U.2.2.1 147 10).1 from (zza.n 147 10 rfl))]; omega)) (by (rw [(show (Va.2.2.1 147 10).1 = (U.2.2.1 147 10).1 from (zza.n 147 10 rfl))]; omega))) ?_
              rw [show (Va.2.2.1 147 10).2 (y * 7 + 6) = nI (pl y) from (by rw [(show (Va.2.2.1 147 10) = (U.2.2.1 147 10) from (zza.a 147 10 rfl))]; exact (hpl y (by omega)).1)]
              have hply : pl y < R := (hpl y (by omega)).2
              obtain ⟨hmy1, hmy2⟩ := hmp1 (pl y) hply
              refine mw_go mu_g329 (k := 4) (f1 := (126, [(5, .inl (nI (pl y))), (4, .inl (nI y)), (0, .inr (.inr (some 147))), (1, .inl (nI r))], [.inl (0 : Int32), .inl (nI (pl y)), .inr (.inr (some 147))], Hsa)) (C := []) rfl trivial ?_
              refine mw_cIe (fun _ => rfl) (show mu_is Hsa (some 147) 2 from (ua.1.1.is rfl)) (gr_node (d := (d + 1)) (r := pl y) (c := 0) ua da (by (rw [(show (Va.2.2.1 147 10).1 = (U.2.2.1 147 10).1 from (zza.n 147 10 rfl))]; omega)) (by (rw [(show (Va.2.2.1 147 10).1 = (U.2.2.1 147 10).1 from (zza.n 147 10 rfl))]; omega))) ?_
              rw [show (Va.2.2.1 147 10).2 ((pl y) * 7 + 0) = nI (mb (pl y)) from (by rw [(show (Va.2.2.1 147 10) = (U.2.2.1 147 10) from (zza.a 147 10 rfl))]; exact hmb (pl y) (by omega))]
              refine mw_go mu_g329 (k := 1) (f1 := (131, [(6, .inl (nI (mb (pl y)))), (5, .inl (nI (pl y))), (4, .inl (nI y)), (0, .inr (.inr (some 147))), (1, .inl (nI r))], [], Hsa)) (C := []) rfl trivial ?_
              refine mw_sub (L' := [(6, .inl (nI (mb (pl y)))), (0, .inr (.inr (some 147))), (1, .inl (nI r)), (4, .inl (nI y)), (5, .inl (nI (pl y)))]) (by simp) ?_
              refine mw_down (α := Nat × mu_H) (fun zs => (131, [(6, .inl (nI zs.1)), (0, .inr (.inr (some 147))), (1, .inl (nI r)), (4, .inl (nI y)), (5, .inl (nI (pl y)))], [], zs.2)) (fun zs => mb (pl y + 1) - zs.1) (fun zs => um m zs.2 ∧ ur m C H zs.2 ∧ (uq F329b Va (ud m zs.2)) ∧ (mb (pl y) ≤ zs.1 ∧ zs.1 ≤ mb (pl y + 1)) ∧ (QUX (ud m zs.2) (MSI U pl mb me k y zs.1) T wn)) (fun zs hzb ihb => ?_) (mb (pl y), Hsa) ⟨ua, hta, (show uq F329b Va (ud m Hsa) from by rw [da]; exact uq.refl _ _), (show mb (pl y) ≤ (mb (pl y)) ∧ (mb (pl y)) ≤ mb (pl y + 1) from ⟨Nat.le_refl _, hmy1⟩), (show QUX (ud m Hsa) (MSI U pl mb me k y (mb (pl y))) T wn from by rw [da]; exact (hQa.cong (fun t => msi_start.symm)))⟩
              obtain ⟨x, Hsb⟩ := zs
              obtain ⟨ub, htb, db, hxx, hQb⟩ := hzb
              have ub : um m Hsb := ub
              have htb : ur m C H Hsb := htb
              have zzb : uq F329b Va (ud m Hsb) := db
              have hxx : mb (pl y) ≤ x ∧ x ≤ mb (pl y + 1) := hxx
              have hQb : QUX (ud m Hsb) (MSI U pl mb me k y x) T wn := hQb
              obtain ⟨Vb, db⟩ : ∃ V, ud m Hsb = V := ⟨_, rfl⟩
              rw [db] at zzb hQb
              show mu_W _ _ (131, [(6, .inl (nI x)), (0, .inr (.inr (some 147))), (1, .inl (nI r)), (4, .inl (nI y)), (5, .inl (nI (pl y)))], [], Hsb) _
              obtain ⟨tl, qu, hQ⟩ := id hQb
              have hq18 : Vb.2.1 147 18 = nI tl := hQ.1
              have hqr := hQ.room
              replace hQb := HID.mk hQb
              refine mw_go mu_g329 (k := 5) (f1 := (138, [(6, .inl (nI x)), (0, .inr (.inr (some 147))), (1, .inl (nI r)), (4, .inl (nI y)), (5, .inl (nI (pl y)))], [.inl ((nI (pl y)) + (1 : Int32)), .inr (.inr (some 147)), .inl (nI x)], Hsb)) (C := []) rfl trivial ?_
              rw [(show ((nI (pl y)) + (1 : Int32)) = (nI ((pl y) + 1)) from (nI_add (pl y) 1))]
              refine mw_go mu_g329 (k := 1) (f1 := (139, [(6, .inl (nI x)), (0, .inr (.inr (some 147))), (1, .inl (nI r)), (4, .inl (nI y)), (5, .inl (nI (pl y)))], [.inl (0 : Int32), .inl (nI ((pl y) + 1)), .inr (.inr (some 147)), .inl (nI x)], Hsb)) (C := []) rfl trivial ?_
              refine mw_cIe (fun _ => rfl) (show mu_is Hsb (some 147) 2 from (ub.1.1.is rfl)) (gr_node (d := (d + 1)) (r := (pl y) + 1) (c := 0) ub db (by (rw [(show (Vb.2.2.1 147 10).1 = (U.2.2.1 147 10).1 from ((zzb.n 147 10 rfl).trans (zza.n 147 10 rfl)))]; omega)) (by (rw [(show (Vb.2.2.1 147 10).1 = (U.2.2.1 147 10).1 from ((zzb.n 147 10 rfl).trans (zza.n 147 10 rfl)))]; omega))) ?_
              rw [show (Vb.2.2.1 147 10).2 (((pl y) + 1) * 7 + 0) = nI (mb ((pl y) + 1)) from (by rw [(show (Vb.2.2.1 147 10) = (U.2.2.1 147 10) from ((zzb.a 147 10 rfl).trans (zza.a 147 10 rfl)))]; exact hmb ((pl y) + 1) (by omega))]
              refine mw_if (P := (nI x) < (nI (mb ((pl y) + 1)))) (a := 145) (b := 221) (fun _ => rfl) trivial (fun h20 => ?_) (fun h20 => ?_)
              · -- 145: (nI x) < (nI (mb ((pl y) + 1)))
                have nh20 : x < (mb ((pl y) + 1)) := (nI_ltI (by omega) (by omega)).mp (show nI x < nI (mb ((pl y) + 1)) from h20)
                refine mw_go mu_g329 (k := 2) (f1 := (149, [(6, .inl (nI x)), (0, .inr (.inr (some 147))), (1, .inl (nI r)), (4, .inl (nI y)), (5, .inl (nI (pl y)))], [.inr (.inr (mu_r Hsb 147 7))], Hsb)) (C := [mu_is Hsb (some 147) 2]) rfl (show mu_is Hsb (some 147) 2 from (ub.1.1.is rfl)) ?_
                rw [(ub.1.1.r (p := 147) (j := 7) (q := 153) rfl)]
                refine mw_go mu_g329 (k := 2) (f1 := (153, [(6, .inl (nI x)), (0, .inr (.inr (some 147))), (1, .inl (nI r)), (4, .inl (nI y)), (5, .inl (nI (pl y)))], [.inr (.inr (mu_r Hsb 147 11)), .inr (.inr (some 153))], Hsb)) (C := [mu_is Hsb (some 147) 2]) rfl (show mu_is Hsb (some 147) 2 from (ub.1.1.is rfl)) ?_
                rw [(show mu_r Hsb 147 11 = (U.2.2.2.1 147 11) from (ud_q (U := Vb) (m := m) (P := 147) (j := 11) db rfl).trans ((zzb.r 147 11 rfl).trans (zza.r 147 11 rfl)))]
                refine mw_go mu_g329 (k := 2) (f1 := (156, [(6, .inl (nI x)), (0, .inr (.inr (some 147))), (1, .inl (nI r)), (4, .inl (nI y)), (5, .inl (nI (pl y)))], [.inl (mu_i Hsb (mu_p (U.2.2.2.1 147 11)) (nI x).toNatClampNeg), .inr (.inr (some 153))], Hsb)) (C := [mu_isr Hsb (U.2.2.2.1 147 11) 100, vp_in (nI x) (mu_n Hsb (mu_p (U.2.2.2.1 147 11)))]) rfl (show (mu_isr Hsb (U.2.2.2.1 147 11) 100) ∧ (vp_in (nI x) (mu_n Hsb (mu_p (U.2.2.2.1 147 11)))) from ⟨((ub.iA db rfl rfl (show Vb.2.2.2.1 147 11 = (U.2.2.2.1 147 11) from ((zzb.r 147 11 rfl).trans (zza.r 147 11 rfl))))).r, (ub.vA (i := x) db rfl rfl (show Vb.2.2.2.1 147 11 = (U.2.2.2.1 147 11) from ((zzb.r 147 11 rfl).trans (zza.r 147 11 rfl))) (show (Vb.2.2.1 147 11).1 = (U.2.2.1 147 11).1 from ((zzb.n 147 11 rfl).trans (zza.n 147 11 rfl))) (by omega) (by omega))⟩) ?_
                rw [(show (mu_i Hsb (mu_p (U.2.2.2.1 147 11)) (nI x).toNatClampNeg) = (nI (me x)) from ((congrArg (mu_i Hsb (mu_p (U.2.2.2.1 147 11))) (show (nI x).toNatClampNeg = x from nI_clamp (by omega))).trans (ub.gA db rfl rfl (show Vb.2.2.2.1 147 11 = (U.2.2.2.1 147 11) from ((zzb.r 147 11 rfl).trans (zza.r 147 11 rfl))))).trans ((congrArg (fun z => z.2 x) (show Vb.2.2.1 147 11 = (U.2.2.1 147 11) from ((zzb.a 147 11 rfl).trans (zza.a 147 11 rfl)))).trans (hme x (by omega)).1))]
                have hmx : me x < T := (hme x (by omega)).2
                refine mw_cI (fun _ => rfl) trivial ((pv_has_153 (d := (d + 1)) (k := (me x)) ub db (by omega)).imp (fun _ _ z => has_alt (b := bts (Vb.2.2.2.2.1 153) (me x)) z)) (fun x21 H21 q21 => ?_)
                rcases q21 with ⟨rfl, hb21, rfl⟩ | ⟨rfl, hb21, rfl⟩
                · -- (1 : Int32)
                  have khb21 : bts (U.2.2.2.2.1 153) (me x) = true := by rw [← (show (Vb.2.2.2.2.1 153) = (U.2.2.2.2.1 153) from ((zzb.l 153 rfl).trans (zza.l 153 rfl)))]; exact hb21
                  refine mw_if (P := (1 : Int32) = 0) (a := 215) (b := 162) (fun _ => rfl) trivial (fun h22 => absurd h22 (by decide)) (fun h22 => ?_)
                  refine mw_go mu_g329 (k := 2) (f1 := (166, [(6, .inl (nI x)), (0, .inr (.inr (some 147))), (1, .inl (nI r)), (4, .inl (nI y)), (5, .inl (nI (pl y)))], [.inr (.inr (mu_r Hsb 147 6))], Hsb)) (C := [mu_is Hsb (some 147) 2]) rfl (show mu_is Hsb (some 147) 2 from (ub.1.1.is rfl)) ?_
                  rw [(ub.1.1.r (p := 147) (j := 6) (q := 152) rfl)]
                  refine mw_go mu_g329 (k := 2) (f1 := (170, [(6, .inl (nI x)), (0, .inr (.inr (some 147))), (1, .inl (nI r)), (4, .inl (nI y)), (5, .inl (nI (pl y)))], [.inr (.inr (mu_r Hsb 147 11)), .inr (.inr (some 152))], Hsb)) (C := [mu_is Hsb (some 147) 2]) rfl (show mu_is Hsb (some 147) 2 from (ub.1.1.is rfl)) ?_
                  rw [(show mu_r Hsb 147 11 = (U.2.2.2.1 147 11) from (ud_q (U := Vb) (m := m) (P := 147) (j := 11) db rfl).trans ((zzb.r 147 11 rfl).trans (zza.r 147 11 rfl)))]
                  refine mw_go mu_g329 (k := 2) (f1 := (173, [(6, .inl (nI x)), (0, .inr (.inr (some 147))), (1, .inl (nI r)), (4, .inl (nI y)), (5, .inl (nI (pl y)))], [.inl (mu_i Hsb (mu_p (U.2.2.2.1 147 11)) (nI x).toNatClampNeg), .inr (.inr (some 152))], Hsb)) (C := [mu_isr Hsb (U.2.2.2.1 147 11) 100, vp_in (nI x) (mu_n Hsb (mu_p (U.2.2.2.1 147 11)))]) rfl (show (mu_isr Hsb (U.2.2.2.1 147 11) 100) ∧ (vp_in (nI x) (mu_n Hsb (mu_p (U.2.2.2.1 147 11)))) from ⟨((ub.iA db rfl rfl (show Vb.2.2.2.1 147 11 = (U.2.2.2.1 147 11) from ((zzb.r 147 11 rfl).trans (zza.r 147 11 rfl))))).r, (ub.vA (i := x) db rfl rfl (show Vb.2.2.2.1 147 11 = (U.2.2.2.1 147 11) from ((zzb.r 147 11 rfl).trans (zza.r 147 11 rfl))) (show (Vb.2.2.1 147 11).1 = (U.2.2.1 147 11).1 from ((zzb.n 147 11 rfl).trans (zza.n 147 11 rfl))) (by omega) (by omega))⟩) ?_
                  rw [(show (mu_i Hsb (mu_p (U.2.2.2.1 147 11)) (nI x).toNatClampNeg) = (nI (me x)) from ((congrArg (mu_i Hsb (mu_p (U.2.2.2.1 147 11))) (show (nI x).toNatClampNeg = x from nI_clamp (by omega))).trans (ub.gA db rfl rfl (show Vb.2.2.2.1 147 11 = (U.2.2.2.1 147 11) from ((zzb.r 147 11 rfl).trans (zza.r 147 11 rfl))))).trans ((congrArg (fun z => z.2 x) (show Vb.2.2.1 147 11 = (U.2.2.1 147 11) from ((zzb.a 147 11 rfl).trans (zza.a 147 11 rfl)))).trans (hme x (by omega)).1))]
                  have hmx : me x < T := (hme x (by omega)).2
                  refine mw_go mu_g329 (k := 2) (f1 := (176, [(6, .inl (nI x)), (0, .inr (.inr (some 147))), (1, .inl (nI r)), (4, .inl (nI y)), (5, .inl (nI (pl y)))], [.inl ((nI (me x)) >>> ((6 : Int32) &&& 31)), .inr (.inr (some 152))], Hsb)) (C := []) rfl trivial ?_
                  rw [(show ((nI (me x)) >>> ((6 : Int32) &&& 31)) = (nI ((me x) / 64)) from (nI_shr6 (a := me x) (by omega)))]
                  refine mw_go mu_g329 (k := 2) (f1 := (178, [(6, .inl (nI x)), (0, .inr (.inr (some 147))), (1, .inl (nI r)), (4, .inl (nI y)), (5, .inl (nI (pl y)))], [.inr (.inl (mu_l Hsb 152 (nI ((me x) / 64)).toNatClampNeg)), .inl (nI ((me x) / 64)), .inr (.inr (some 152))], Hsb)) (C := [mu_isr Hsb (some 152) 102, vp_in (nI ((me x) / 64)) (mu_n Hsb 152)]) rfl (show (mu_isr Hsb (some 152) 102) ∧ (vp_in (nI ((me x) / 64)) (mu_n Hsb 152)) from ⟨((ub.1.1.a (p := 152) (x := (102, 256)) rfl).1).r, (by rw [show mu_n Hsb 152 = 256 from (ub.1.1.a (p := 152) (x := (102, 256)) rfl).2]; exact vp_in_nI (n := (me x) / 64) (by omega) (by decide))⟩) ?_
                  rw [(show (mu_l Hsb 152 (nI ((me x) / 64)).toNatClampNeg) = (Vb.2.2.2.2.1 152) ((me x) / 64) from (congrArg (mu_l Hsb 152) (show (nI ((me x) / 64)).toNatClampNeg = (me x) / 64 from nI_clamp (by omega))).trans ((ud_l (m := m) (p := 152) (i := ((me x) / 64)) db rfl).trans (congrFun (show Vb.2.2.2.2.1 152 = (Vb.2.2.2.2.1 152) from rfl) ((me x) / 64))))]
                  refine mw_go mu_g329 (k := 3) (f1 := (183, [(6, .inl (nI x)), (0, .inr (.inr (some 147))), (1, .inl (nI r)), (4, .inl (nI y)), (5, .inl (nI (pl y)))], [.inr (.inr (mu_r Hsb 147 11)), .inr (.inl (1 : Int64)), .inr (.inl ((Vb.2.2.2.2.1 152) ((me x) / 64))), .inl (nI ((me x) / 64)), .inr (.inr (some 152))], Hsb)) (C := [mu_is Hsb (some 147) 2]) rfl (show mu_is Hsb (some 147) 2 from (ub.1.1.is rfl)) ?_
                  rw [(show mu_r Hsb 147 11 = (U.2.2.2.1 147 11) from (ud_q (U := Vb) (m := m) (P := 147) (j := 11) db rfl).trans ((zzb.r 147 11 rfl).trans (zza.r 147 11 rfl)))]
                  refine mw_go mu_g329 (k := 2) (f1 := (186, [(6, .inl (nI x)), (0, .inr (.inr (some 147))), (1, .inl (nI r)), (4, .inl (nI y)), (5, .inl (nI (pl y)))], [.inl (mu_i Hsb (mu_p (U.2.2.2.1 147 11)) (nI x).toNatClampNeg), .inr (.inl (1 : Int64)), .inr (.inl ((Vb.2.2.2.2.1 152) ((me x) / 64))), .inl (nI ((me x) / 64)), .inr (.inr (some 152))], Hsb)) (C := [mu_isr Hsb (U.2.2.2.1 147 11) 100, vp_in (nI x) (mu_n Hsb (mu_p (U.2.2.2.1 147 11)))]) rfl (show (mu_isr Hsb (U.2.2.2.1 147 11) 100) ∧ (vp_in (nI x) (mu_n Hsb (mu_p (U.2.2.2.1 147 11)))) from ⟨((ub.iA db rfl rfl (show Vb.2.2.2.1 147 11 = (U.2.2.2.1 147 11) from ((zzb.r 147 11 rfl).trans (zza.r 147 11 rfl))))).r, (ub.vA (i := x) db rfl rfl (show Vb.2.2.2.1 147 11 = (U.2.2.2.1 147 11) from ((zzb.r 147 11 rfl).trans (zza.r 147 11 rfl))) (show (Vb.2.2.1 147 11).1 = (U.2.2.1 147 11).1 from ((zzb.n 147 11 rfl).trans (zza.n 147 11 rfl))) (by omega) (by omega))⟩) ?_
                  rw [(show (mu_i Hsb (mu_p (U.2.2.2.1 147 11)) (nI x).toNatClampNeg) = (nI (me x)) from ((congrArg (mu_i Hsb (mu_p (U.2.2.2.1 147 11))) (show (nI x).toNatClampNeg = x from nI_clamp (by omega))).trans (ub.gA db rfl rfl (show Vb.2.2.2.1 147 11 = (U.2.2.2.1 147 11) from ((zzb.r 147 11 rfl).trans (zza.r 147 11 rfl))))).trans ((congrArg (fun z => z.2 x) (show Vb.2.2.1 147 11 = (U.2.2.1 147 11) from ((zzb.a 147 11 rfl).trans (zza.a 147 11 rfl)))).trans (hme x (by omega)).1))]
                  have hmx : me x < T := (hme x (by omega)).2
                  refine mw_go mu_g329 (k := 3) (f1 := (189, [(6, .inl (nI x)), (0, .inr (.inr (some 147))), (1, .inl (nI r)), (4, .inl (nI y)), (5, .inl (nI (pl y)))], [], (mu_sl Hsb 152 (nI ((me x) / 64)).toNatClampNeg (((Vb.2.2.2.2.1 152) ((me x) / 64)) ||| ((1 : Int64) <<< ((nI (me x)).toInt64 &&& 63)))))) (C := [mu_is Hsb (some 152) 102, vp_in (nI ((me x) / 64)) (mu_n Hsb 152)]) rfl (show (mu_is Hsb (some 152) 102) ∧ (vp_in (nI ((me x) / 64)) (mu_n Hsb 152)) from ⟨((ub.1.1.a (p := 152) (x := (102, 256)) rfl).1), (by rw [show mu_n Hsb 152 = 256 from (ub.1.1.a (p := 152) (x := (102, 256)) rfl).2]; exact vp_in_nI (n := (me x) / 64) (by omega) (by decide))⟩) ?_
                  rw [(show (nI ((me x) / 64)).toNatClampNeg = (me x) / 64 from nI_clamp (by omega))]
                  obtain ⟨u23, r23, d23⟩ : um m (mu_sl Hsb 152 ((me x) / 64) (((Vb.2.2.2.2.1 152) ((me x) / 64)) ||| ((1 : Int64) <<< ((nI (me x)).toInt64 &&& 63)))) ∧ ur m C Hsb (mu_sl Hsb 152 ((me x) / 64) (((Vb.2.2.2.2.1 152) ((me x) / 64)) ||| ((1 : Int64) <<< ((nI (me x)).toInt64 &&& 63)))) ∧ ud m (mu_sl Hsb 152 ((me x) / 64) (((Vb.2.2.2.2.1 152) ((me x) / 64)) ||| ((1 : Int64) <<< ((nI (me x)).toInt64 &&& 63)))) = (upL Vb 152 ((me x) / 64) (((Vb.2.2.2.2.1 152) ((me x) / 64)) ||| ((1 : Int64) <<< ((nI (me x)).toInt64 &&& 63)))) := ub.sL (C := C) db rfl
                  generalize (mu_sl Hsb 152 ((me x) / 64) (((Vb.2.2.2.2.1 152) ((me x) / 64)) ||| ((1 : Int64) <<< ((nI (me x)).toInt64 &&& 63)))) = Q23 at u23 r23 d23 ⊢
                  have ht23 : ur m C H Q23 := htb.trans r23
                  refine mw_go mu_g329 (k := 2) (f1 := (193, [(6, .inl (nI x)), (0, .inr (.inr (some 147))), (1, .inl (nI r)), (4, .inl (nI y)), (5, .inl (nI (pl y)))], [.inr (.inr (mu_r Q23 147 12))], Q23)) (C := [mu_is Q23 (some 147) 2]) rfl (show mu_is Q23 (some 147) 2 from (u23.1.1.is rfl)) ?_
                  rw [(show mu_r Q23 147 12 = (U.2.2.2.1 147 12) from (ud_q (U := (upL Vb 152 ((me x) / 64) (((Vb.2.2.2.2.1 152) ((me x) / 64)) ||| ((1 : Int64) <<< ((nI (me x)).toInt64 &&& 63))))) (m := m) (P := 147) (j := 12) d23 rfl).trans ((zzb.r 147 12 rfl).trans (zza.r 147 12 rfl)))]
                  refine mw_go mu_g329 (k := 2) (f1 := (197, [(6, .inl (nI x)), (0, .inr (.inr (some 147))), (1, .inl (nI r)), (4, .inl (nI y)), (5, .inl (nI (pl y)))], [.inl (mu_i Q23 147 18), .inr (.inr (U.2.2.2.1 147 12))], Q23)) (C := [mu_is Q23 (some 147) 2]) rfl (show mu_is Q23 (some 147) 2 from (u23.1.1.is rfl)) ?_
                  rw [(show mu_i Q23 147 18 = (nI tl) from (ud_i (U := (upL Vb 152 ((me x) / 64) (((Vb.2.2.2.2.1 152) ((me x) / 64)) ||| ((1 : Int64) <<< ((nI (me x)).toInt64 &&& 63))))) (m := m) (P := 147) (j := 18) d23 rfl).trans hq18)]
                  refine mw_go mu_g329 (k := 2) (f1 := (201, [(6, .inl (nI x)), (0, .inr (.inr (some 147))), (1, .inl (nI r)), (4, .inl (nI y)), (5, .inl (nI (pl y)))], [.inr (.inr (mu_r Q23 147 11)), .inl (nI tl), .inr (.inr (U.2.2.2.1 147 12))], Q23)) (C := [mu_is Q23 (some 147) 2]) rfl (show mu_is Q23 (some 147) 2 from (u23.1.1.is rfl)) ?_
                  rw [(show mu_r Q23 147 11 = (U.2.2.2.1 147 11) from (ud_q (U := (upL Vb 152 ((me x) / 64) (((Vb.2.2.2.2.1 152) ((me x) / 64)) ||| ((1 : Int64) <<< ((nI (me x)).toInt64 &&& 63))))) (m := m) (P := 147) (j := 11) d23 rfl).trans ((zzb.r 147 11 rfl).trans (zza.r 147 11 rfl)))]
                  refine mw_go mu_g329 (k := 2) (f1 := (204, [(6, .inl (nI x)), (0, .inr (.inr (some 147))), (1, .inl (nI r)), (4, .inl (nI y)), (5, .inl (nI (pl y)))], [.inl (mu_i Q23 (mu_p (U.2.2.2.1 147 11)) (nI x).toNatClampNeg), .inl (nI tl), .inr (.inr (U.2.2.2.1 147 12))], Q23)) (C := [mu_isr Q23 (U.2.2.2.1 147 11) 100, vp_in (nI x) (mu_n Q23 (mu_p (U.2.2.2.1 147 11)))]) rfl (show (mu_isr Q23 (U.2.2.2.1 147 11) 100) ∧ (vp_in (nI x) (mu_n Q23 (mu_p (U.2.2.2.1 147 11)))) from ⟨((u23.iA d23 rfl rfl (show (upL Vb 152 ((me x) / 64) (((Vb.2.2.2.2.1 152) ((me x) / 64)) ||| ((1 : Int64) <<< ((nI (me x)).toInt64 &&& 63)))).2.2.2.1 147 11 = (U.2.2.2.1 147 11) from ((zzb.r 147 11 rfl).trans (zza.r 147 11 rfl))))).r, (u23.vA (i := x) d23 rfl rfl (show (upL Vb 152 ((me x) / 64) (((Vb.2.2.2.2.1 152) ((me x) / 64)) ||| ((1 : Int64) <<< ((nI (me x)).toInt64 &&& 63)))).2.2.2.1 147 11 = (U.2.2.2.1 147 11) from ((zzb.r 147 11 rfl).trans (zza.r 147 11 rfl))) (show ((upL Vb 152 ((me x) / 64) (((Vb.2.2.2.2.1 152) ((me x) / 64)) ||| ((1 : Int64) <<< ((nI (me x)).toInt64 &&& 63)))).2.2.1 147 11).1 = (U.2.2.1 147 11).1 from ((zzb.n 147 11 rfl).trans (zza.n 147 11 rfl))) (by omega) (by omega))⟩) ?_
                  rw [(show (mu_i Q23 (mu_p (U.2.2.2.1 147 11)) (nI x).toNatClampNeg) = (nI (me x)) from ((congrArg (mu_i Q23 (mu_p (U.2.2.2.1 147 11))) (show (nI x).toNatClampNeg = x from nI_clamp (by omega))).trans (u23.gA d23 rfl rfl (show (upL Vb 152 ((me x) / 64) (((Vb.2.2.2.2.1 152) ((me x) / 64)) ||| ((1 : Int64) <<< ((nI (me x)).toInt64 &&& 63)))).2.2.2.1 147 11 = (U.2.2.2.1 147 11) from ((zzb.r 147 11 rfl).trans (zza.r 147 11 rfl))))).trans ((congrArg (fun z => z.2 x) (show (upL Vb 152 ((me x) / 64) (((Vb.2.2.2.2.1 152) ((me x) / 64)) ||| ((1 : Int64) <<< ((nI (me x)).toInt64 &&& 63)))).2.2.1 147 11 = (U.2.2.1 147 11) from ((zzb.a 147 11 rfl).trans (zza.a 147 11 rfl)))).trans (hme x (by omega)).1))]
                  have hmx : me x < T := (hme x (by omega)).2
                  refine mw_go mu_g329 (k := 1) (f1 := (205, [(6, .inl (nI x)), (0, .inr (.inr (some 147))), (1, .inl (nI r)), (4, .inl (nI y)), (5, .inl (nI (pl y)))], [], (mu_si Q23 (mu_p (U.2.2.2.1 147 12)) (nI tl).toNatClampNeg (nI (me x))))) (C := [mu_is Q23 (U.2.2.2.1 147 12) 100, vp_in (nI tl) (mu_n Q23 (mu_p (U.2.2.2.1 147 12)))]) rfl (show (mu_is Q23 (U.2.2.2.1 147 12) 100) ∧ (vp_in (nI tl) (mu_n Q23 (mu_p (U.2.2.2.1 147 12)))) from ⟨(u23.iA d23 rfl rfl (show (upL Vb 152 ((me x) / 64) (((Vb.2.2.2.2.1 152) ((me x) / 64)) ||| ((1 : Int64) <<< ((nI (me x)).toInt64 &&& 63)))).2.2.2.1 147 12 = (U.2.2.2.1 147 12) from ((zzb.r 147 12 rfl).trans (zza.r 147 12 rfl)))), (u23.vA (i := tl) d23 rfl rfl (show (upL Vb 152 ((me x) / 64) (((Vb.2.2.2.2.1 152) ((me x) / 64)) ||| ((1 : Int64) <<< ((nI (me x)).toInt64 &&& 63)))).2.2.2.1 147 12 = (U.2.2.2.1 147 12) from ((zzb.r 147 12 rfl).trans (zza.r 147 12 rfl))) (show ((upL Vb 152 ((me x) / 64) (((Vb.2.2.2.2.1 152) ((me x) / 64)) ||| ((1 : Int64) <<< ((nI (me x)).toInt64 &&& 63)))).2.2.1 147 12).1 = (U.2.2.1 147 12).1 from ((zzb.n 147 12 rfl).trans (zza.n 147 12 rfl))) (by omega) (by omega))⟩) ?_
                  rw [(show (nI tl).toNatClampNeg = tl from nI_clamp (by omega))]
                  obtain ⟨u24, r24, d24⟩ : um m (mu_si Q23 (mu_p (U.2.2.2.1 147 12)) tl (nI (me x))) ∧ ur m C Q23 (mu_si Q23 (mu_p (U.2.2.2.1 147 12)) tl (nI (me x))) ∧ ud m (mu_si Q23 (mu_p (U.2.2.2.1 147 12)) tl (nI (me x))) = (upA (upL Vb 152 ((me x) / 64) (((Vb.2.2.2.2.1 152) ((me x) / 64)) ||| ((1 : Int64) <<< ((nI (me x)).toInt64 &&& 63)))) 147 12 tl (nI (me x))) := u23.sA (C := C) d23 rfl rfl (show (upL Vb 152 ((me x) / 64) (((Vb.2.2.2.2.1 152) ((me x) / 64)) ||| ((1 : Int64) <<< ((nI (me x)).toInt64 &&& 63)))).2.2.2.1 147 12 = (U.2.2.2.1 147 12) from ((zzb.r 147 12 rfl).trans (zza.r 147 12 rfl)))
                  generalize (mu_si Q23 (mu_p (U.2.2.2.1 147 12)) tl (nI (me x))) = Q24 at u24 r24 d24 ⊢
                  have ht24 : ur m C H Q24 := ht23.trans r24
                  refine mw_go mu_g329 (k := 3) (f1 := (210, [(6, .inl (nI x)), (0, .inr (.inr (some 147))), (1, .inl (nI r)), (4, .inl (nI y)), (5, .inl (nI (pl y)))], [.inl (mu_i Q24 147 18), .inr (.inr (some 147))], Q24)) (C := [mu_is Q24 (some 147) 2]) rfl (show mu_is Q24 (some 147) 2 from (u24.1.1.is rfl)) ?_
                  rw [(show mu_i Q24 147 18 = (nI tl) from (ud_i (U := (upA (upL Vb 152 ((me x) / 64) (((Vb.2.2.2.2.1 152) ((me x) / 64)) ||| ((1 : Int64) <<< ((nI (me x)).toInt64 &&& 63)))) 147 12 tl (nI (me x)))) (m := m) (P := 147) (j := 18) d24 rfl).trans hq18)]
                  refine mw_go mu_g329 (k := 2) (f1 := (212, [(6, .inl (nI x)), (0, .inr (.inr (some 147))), (1, .inl (nI r)), (4, .inl (nI y)), (5, .inl (nI (pl y)))], [.inl ((nI tl) + (1 : Int32)), .inr (.inr (some 147))], Q24)) (C := []) rfl trivial ?_
                  rw [(show ((nI tl) + (1 : Int32)) = (nI (tl + 1)) from (nI_add tl 1))]
                  refine mw_go mu_g329 (k := 1) (f1 := (215, [(6, .inl (nI x)), (0, .inr (.inr (some 147))), (1, .inl (nI r)), (4, .inl (nI y)), (5, .inl (nI (pl y)))], [], (mu_si Q24 147 18 (nI (tl + 1))))) (C := [mu_is Q24 (some 147) 2]) rfl (show mu_is Q24 (some 147) 2 from (u24.1.1.is rfl)) ?_
                  obtain ⟨u25, r25, d25⟩ : um m (mu_si Q24 147 18 (nI (tl + 1))) ∧ ur m C Q24 (mu_si Q24 147 18 (nI (tl + 1))) ∧ ud m (mu_si Q24 147 18 (nI (tl + 1))) = (upI (upA (upL Vb 152 ((me x) / 64) (((Vb.2.2.2.2.1 152) ((me x) / 64)) ||| ((1 : Int64) <<< ((nI (me x)).toInt64 &&& 63)))) 147 12 tl (nI (me x))) 147 18 (nI (tl + 1))) := u24.sI (C := C) d24 rfl
                  generalize (mu_si Q24 147 18 (nI (tl + 1))) = Q25 at u25 r25 d25 ⊢
                  have ht25 : ur m C H Q25 := ht24.trans r25
                  refine mw_go mu_g329 (k := 1) (f1 := (218, [(6, .inl ((nI x) + 1)), (0, .inr (.inr (some 147))), (1, .inl (nI r)), (4, .inl (nI y)), (5, .inl (nI (pl y)))], [], Q25)) (C := []) rfl trivial ?_
                  rw [(show ((nI x) + 1) = (nI (x + 1)) from (nI_add x 1))]
                  refine mw_go mu_g329 (k := 1) (f1 := (131, [(6, .inl (nI (x + 1))), (0, .inr (.inr (some 147))), (1, .inl (nI r)), (4, .inl (nI y)), (5, .inl (nI (pl y)))], [], Q25)) (C := []) rfl trivial ?_
                  exact mw_sub (by simp) (ihb (x + 1, Q25) ⟨u25, ht25, (show uq F329b Va (ud m Q25) from by rw [d25]; exact (((zzb.L rfl).A rfl).I rfl)), (show mb (pl y) ≤ (x + 1) ∧ (x + 1) ≤ mb (pl y + 1) from (by omega)), (show QUX (ud m Q25) (MSI U pl mb me k y (x + 1)) T wn from by rw [d25]; exact ⟨_, _, hQ.push hmx hTb (msi_new ⟨hmp1, hmp2, hmp3, hmp4⟩ (fun i hi => (hpl i hi).2) hinj (by omega) (by omega) (by omega)) (fun t => msi_yes (by omega) khb21)⟩)⟩ (by show mb (pl y + 1) - (x + 1) < mb (pl y + 1) - x; omega))
                · -- (0 : Int32)
                  have khb21 : bts (U.2.2.2.2.1 153) (me x) = false := by rw [← (show (Vb.2.2.2.2.1 153) = (U.2.2.2.2.1 153) from ((zzb.l 153 rfl).trans (zza.l 153 rfl)))]; exact hb21
                  refine mw_if (P := (0 : Int32) = 0) (a := 215) (b := 162) (fun _ => rfl) trivial (fun h26 => ?_) (fun h26 => absurd (by decide) h26)
                  refine mw_go mu_g329 (k := 1) (f1 := (218, [(6, .inl ((nI x) + 1)), (0, .inr (.inr (some 147))), (1, .inl (nI r)), (4, .inl (nI y)), (5, .inl (nI (pl y)))], [], Hsb)) (C := []) rfl trivial ?_
                  rw [(show ((nI x) + 1) = (nI (x + 1)) from (nI_add x 1))]
                  refine mw_go mu_g329 (k := 1) (f1 := (131, [(6, .inl (nI (x + 1))), (0, .inr (.inr (some 147))), (1, .inl (nI r)), (4, .inl (nI y)), (5, .inl (nI (pl y)))], [], Hsb)) (C := []) rfl trivial ?_
                  exact mw_sub (by simp) (ihb (x + 1, Hsb) ⟨ub, htb, (show uq F329b Va (ud m Hsb) from by rw [db]; exact zzb), (show mb (pl y) ≤ (x + 1) ∧ (x + 1) ≤ mb (pl y + 1) from (by omega)), (show QUX (ud m Hsb) (MSI U pl mb me k y (x + 1)) T wn from by rw [db]; exact (hQb.out.cong (fun t => msi_no khb21)))⟩ (by show mb (pl y + 1) - (x + 1) < mb (pl y + 1) - x; omega))
              · -- 221: not (nI x) < (nI (mb ((pl y) + 1)))
                have nh20 : ¬ x < (mb ((pl y) + 1)) := fun z => h20 (show nI x < nI (mb ((pl y) + 1)) from (nI_ltI (by omega) (by omega)).mpr z)
                refine mw_go mu_g329 (k := 1) (f1 := (224, [(4, .inl ((nI y) + 1)), (6, .inl (nI x)), (0, .inr (.inr (some 147))), (1, .inl (nI r)), (5, .inl (nI (pl y)))], [], Hsb)) (C := []) rfl trivial ?_
                rw [(show ((nI y) + 1) = (nI (y + 1)) from (nI_add y 1))]
                refine mw_go mu_g329 (k := 1) (f1 := (103, [(4, .inl (nI (y + 1))), (6, .inl (nI x)), (0, .inr (.inr (some 147))), (1, .inl (nI r)), (5, .inl (nI (pl y)))], [], Hsb)) (C := []) rfl trivial ?_
                exact mw_sub (by simp) (iha (y + 1, Hsb) ⟨ub, htb, (show uq F329a (upI (upM U 152 0 (fun _ => (0 : Int64)) (wn - 0)) 147 18 (0 : Int32)) (ud m Hsb) from by rw [db]; exact (zza.tr zzb rfl)), (show k ≤ (y + 1) ∧ (y + 1) ≤ ls from (by omega)), (show QUX (ud m Hsb) (MSO U pl mb me k (y + 1)) T wn from by rw [db]; exact (hQb.out.cong (fun t => msi_end hy.1 (by omega))))⟩ (by show ls - (y + 1) < ls - y; omega))
            · -- 227: not (nI y) < (nI ls)
              have nh16 : ¬ y < ls := fun z => h16 (show nI y < nI ls from (nI_ltI (by omega) (by omega)).mpr z)
              refine mw_go mu_g329 (k := 1) (f1 := (228, [(4, .inl (nI y)), (0, .inr (.inr (some 147))), (1, .inl (nI r))], [.inl (1 : Int32)], Hsa)) (C := []) rfl trivial ?_
              have hyl : y = ls := by omega
              rw [hyl] at hQa
              obtain ⟨tl, qu, hQ⟩ := hQa
              refine mw_of (fun _ => mu_ret rfl (Or.inr rfl) ⟨_, Hsa, rfl, ua, hta, Or.inr (Or.inr ⟨rfl, by omega, by omega, by omega, by omega, (by rw [da]; exact (show uq F329 U Va from ((((uq.refl F329 U).M rfl).I rfl).tr zza rfl))), tl, qu, ?_⟩)⟩)
              rw [da]
              obtain ⟨k1, k2, k3, k4, k5, k6⟩ := hQ
              have hcv : ∀ t, MSO U pl mb me k ls t ↔ t < T ∧ bts (U.2.2.2.2.1 153) t = true ∧ SCC pl k ls (rx t) := fun t => by
                have hR2 : ∀ i, i < ls → pl i < R := fun i hi => (hpl i hi).2
                constructor
                · intro z
                  have zT := mso_T (T := T) (fun i hi => (hme i hi).2) (fun i hi => (hmp1 _ (hR2 i hi)).2) z
                  exact ⟨zT, (mso_scc ⟨hmp1, hmp2, hmp3, hmp4⟩ hR2 zT).mp z⟩
                · rintro ⟨z1, z2⟩
                  exact (mso_scc ⟨hmp1, hmp2, hmp3, hmp4⟩ hR2 z1).mpr z2
              exact ⟨k1, k2, k3, fun t => (k4 t).trans (hcv t), fun t ht => (k5 t ht).trans (hcv t), k6⟩
      · -- 52: not ((nI lv) &&& (1 : Int32)) = 0
        have hl1 : lv % 2 = 1 := Classical.byContradiction (fun z => h8 ((and41 lv hlv4).mpr z))
        refine mw_go mu_g329 (k := 1) (f1 := (53, [(3, .inl (1 : Int32)), (2, .inl (nI lv)), (0, .inr (.inr (some 147))), (1, .inl (nI r))], [.inl (0 : Int32)], H)) (C := []) rfl trivial ?_
        refine mw_of (fun _ => mu_ret rfl (Or.inl rfl) ⟨_, H, rfl, h, (ur.refl m C H), Or.inl ⟨rfl, e, by omega⟩⟩)
  · -- 29: not (nI (pl (ls - 1))) = (nI r)
    have nh3 : ¬ (pl (ls - 1)) = r := fun z => h3 (show nI (pl (ls - 1)) = nI r from (nI_eq (by omega) (by omega)).mpr z)
    refine mw_go mu_g329 (k := 6) (f1 := (38, [(3, .inl (1 : Int32)), (2, .inl (nI lv)), (0, .inr (.inr (some 147))), (1, .inl (nI r))], [.inl ((nI lv) &&& (1 : Int32))], H)) (C := []) rfl trivial ?_
    refine mw_if (P := ((nI lv) &&& (1 : Int32)) = 0) (a := 41) (b := 52) (fun _ => rfl) trivial (fun h27 => ?_) (fun h27 => ?_)
    · -- 41: ((nI lv) &&& (1 : Int32)) = 0
      have hl1 : ¬ lv % 2 = 1 := (and41 lv hlv4).mp h27
      refine mw_go mu_g329 (k := 2) (f1 := (45, [(3, .inl (1 : Int32)), (2, .inl (nI lv)), (0, .inr (.inr (some 147))), (1, .inl (nI r))], [.inl (mu_i H 147 9)], H)) (C := [mu_is H (some 147) 2]) rfl (show mu_is H (some 147) 2 from (h.1.1.is rfl)) ?_
      rw [(show mu_i H 147 9 = (nI ev) from (ud_i (U := U) (m := m) (P := 147) (j := 9) e rfl).trans hev)]
      refine mw_if (P := (nI ev) = 0) (a := 52) (b := 48) (fun _ => rfl) trivial (fun h28 => ?_) (fun h28 => ?_)
      · -- 52: (nI ev) = 0
        have nh28 : ev = 0 := (nI_eq (by omega) (by omega)).mp (show nI ev = nI 0 from h28)
        refine mw_go mu_g329 (k := 1) (f1 := (53, [(3, .inl (1 : Int32)), (2, .inl (nI lv)), (0, .inr (.inr (some 147))), (1, .inl (nI r))], [.inl (0 : Int32)], H)) (C := []) rfl trivial ?_
        refine mw_of (fun _ => mu_ret rfl (Or.inl rfl) ⟨_, H, rfl, h, (ur.refl m C H), Or.inl ⟨rfl, e, by omega⟩⟩)
      · -- 48: not (nI ev) = 0
        have nh28 : ¬ ev = 0 := fun z => h28 (show nI ev = nI 0 from (nI_eq (by omega) (by omega)).mpr z)
        refine mw_go mu_g329 (k := 1) (f1 := (49, [(3, .inl (1 : Int32)), (2, .inl (nI lv)), (0, .inr (.inr (some 147))), (1, .inl (nI r))], [.inl (1 : Int32)], H)) (C := []) rfl trivial ?_
        refine mw_if (P := (1 : Int32) = 0) (a := 52) (b := 54) (fun _ => rfl) trivial (fun h29 => absurd h29 (by decide)) (fun h29 => ?_)
        refine mw_go mu_g329 (k := 2) (f1 := (58, [(3, .inl (1 : Int32)), (2, .inl (nI lv)), (0, .inr (.inr (some 147))), (1, .inl (nI r))], [.inr (.inr (mu_r H 147 0))], H)) (C := [mu_is H (some 147) 2]) rfl (show mu_is H (some 147) 2 from (h.1.1.is rfl)) ?_
        rw [(h.1.1.r (p := 147) (j := 0) (q := 99) rfl)]
        refine mw_go mu_g329 (k := 1) (f1 := (61, [(3, .inl (1 : Int32)), (2, .inl (nI lv)), (0, .inr (.inr (some 147))), (1, .inl (nI r))], [.inl (mu_i H 99 19)], H)) (C := [mu_is H (some 99) 13]) rfl (show mu_is H (some 99) 13 from (h.1.1.is rfl)) ?_
        rw [(show mu_i H 99 19 = (nI nf) from (ud_i (U := U) (m := m) (P := 99) (j := 19) e rfl).trans hnf)]
        refine mw_if (P := (nI nf) = 0) (a := 64) (b := 75) (fun _ => rfl) trivial (fun h30 => ?_) (fun h30 => ?_)
        · -- 64: (nI nf) = 0
          have nh30 : nf = 0 := (nI_eq (by omega) (by omega)).mp (show nI nf = nI 0 from h30)
          refine mw_go mu_g329 (k := 6) (f1 := (70, [(3, .inl (1 : Int32)), (2, .inl (nI lv)), (0, .inr (.inr (some 147))), (1, .inl (nI r))], [.inl ((nI lv) ||| (1 : Int32)), .inl (4 : Int32), .inl (nI r), .inr (.inr (some 147))], H)) (C := []) rfl trivial ?_
          rw [show ((nI lv) ||| (1 : Int32)) = nI (lv + 1) from (or41 lv hlv4).trans (congrArg nI (if_pos (by omega)))]
          refine mw_cV (fun _ => rfl) (show mu_is H (some 147) 2 from (h.1.1.is rfl)) (gr_set (d := (d + 1)) (C := C) (r := r) (c := 4) (v := (nI (lv + 1))) h e (by omega) (by omega)) (fun Q31 q31 => ?_)
          obtain ⟨u31, r31, d31⟩ := q31
          have ht31 : ur m C H Q31 := (ur.refl m C H).trans r31
          refine mw_go mu_g329 (k := 1) (f1 := (74, [(3, .inl (1 : Int32)), (2, .inl (nI lv)), (0, .inr (.inr (some 147))), (1, .inl (nI r))], [.inl (0 : Int32)], Q31)) (C := []) rfl trivial ?_
          exact mw_of (fun _ => mu_ret rfl (Or.inl rfl) ⟨_, Q31, rfl, u31, ht31, Or.inr (Or.inl ⟨rfl, d31, by omega, by omega, by omega, by omega⟩)⟩)
        · -- 75: not (nI nf) = 0
          have nh30 : ¬ nf = 0 := fun z => h30 (show nI nf = nI 0 from (nI_eq (by omega) (by omega)).mpr z)
          refine mw_go mu_g329 (k := 2) (f1 := (79, [(3, .inl (1 : Int32)), (2, .inl (nI lv)), (0, .inr (.inr (some 147))), (1, .inl (nI r))], [.inr (.inr (mu_r H 147 6))], H)) (C := [mu_is H (some 147) 2]) rfl (show mu_is H (some 147) 2 from (h.1.1.is rfl)) ?_
          rw [(h.1.1.r (p := 147) (j := 6) (q := 152) rfl)]
          refine mw_go mu_g329 (k := 3) (f1 := (84, [(3, .inl (1 : Int32)), (2, .inl (nI lv)), (0, .inr (.inr (some 147))), (1, .inl (nI r))], [.inr (.inr (mu_r H 147 0)), .inl (0 : Int32), .inr (.inr (some 152))], H)) (C := [mu_is H (some 147) 2]) rfl (show mu_is H (some 147) 2 from (h.1.1.is rfl)) ?_
          rw [(h.1.1.r (p := 147) (j := 0) (q := 99) rfl)]
          refine mw_go mu_g329 (k := 1) (f1 := (87, [(3, .inl (1 : Int32)), (2, .inl (nI lv)), (0, .inr (.inr (some 147))), (1, .inl (nI r))], [.inl (mu_i H 99 12), .inl (0 : Int32), .inr (.inr (some 152))], H)) (C := [mu_is H (some 99) 13]) rfl (show mu_is H (some 99) 13 from (h.1.1.is rfl)) ?_
          rw [(show mu_i H 99 12 = (nI wn) from (ud_i (U := U) (m := m) (P := 99) (j := 12) e rfl).trans hg12)]
          refine mw_go mu_g329 (k := 1) (f1 := (88, [(3, .inl (1 : Int32)), (2, .inl (nI lv)), (0, .inr (.inr (some 147))), (1, .inl (nI r))], [.inr (.inl (0 : Int64)), .inl (nI wn), .inl (0 : Int32), .inr (.inr (some 152))], H)) (C := []) rfl trivial ?_
          refine mw_cV (fun _ => rfl) trivial ((ar_fillL_ok (d := d) (v := (0 : Int64)) (a := 0) (b := wn) ((h.1.1.a (p := 152) (x := (102, 256)) rfl).1) (by omega) (by rw [show mu_n H (mu_p (some 152)) = 256 from (h.1.1.a (p := 152) (x := (102, 256)) rfl).2]; omega) (by rw [show mu_n H (mu_p (some 152)) = 256 from (h.1.1.a (p := 152) (x := (102, 256)) rfl).2]; decide)).imp (fun Hx qx => show um m Hx ∧ ur m C H Hx ∧ ud m Hx = (upM U 152 0 (fun _ => (0 : Int64)) (wn - 0)) by rw [qx]; exact h.fL (C := C) e rfl)) (fun Q32 q32 => ?_)
          obtain ⟨u32, r32, d32⟩ := q32
          have ht32 : ur m C H Q32 := (ur.refl m C H).trans r32
          refine mw_go mu_g329 (k := 3) (f1 := (96, [(3, .inl (1 : Int32)), (2, .inl (nI lv)), (0, .inr (.inr (some 147))), (1, .inl (nI r))], [], (mu_si Q32 147 18 (0 : Int32)))) (C := [mu_is Q32 (some 147) 2]) rfl (show mu_is Q32 (some 147) 2 from (u32.1.1.is rfl)) ?_
          obtain ⟨u33, r33, d33⟩ : um m (mu_si Q32 147 18 (0 : Int32)) ∧ ur m C Q32 (mu_si Q32 147 18 (0 : Int32)) ∧ ud m (mu_si Q32 147 18 (0 : Int32)) = (upI (upM U 152 0 (fun _ => (0 : Int64)) (wn - 0)) 147 18 (0 : Int32)) := u32.sI (C := C) d32 rfl
          generalize (mu_si Q32 147 18 (0 : Int32)) = Q33 at u33 r33 d33 ⊢
          have ht33 : ur m C H Q33 := ht32.trans r33
          refine mw_go mu_g329 (k := 2) (f1 := (98, [(3, .inl (1 : Int32)), (2, .inl (nI lv)), (0, .inr (.inr (some 147))), (1, .inl (nI r))], [.inl (nI r), .inr (.inr (some 147))], Q33)) (C := []) rfl trivial ?_
          refine mw_cIe (fun _ => rfl) (show mu_is Q33 (some 147) 2 from (u33.1.1.is rfl)) (gr_ring (d := d) (ps := ls) (pl := pl) (r := r) (q := k) u33 d33 (hls) (by (rw [(show ((upI (upM U 152 0 (fun _ => (0 : Int64)) (wn - 0)) 147 18 (0 : Int32)).2.2.1 147 10).1 = (U.2.2.1 147 10).1 from rfl)]; omega)) (by (rw [(show ((upI (upM U 152 0 (fun _ => (0 : Int64)) (wn - 0)) 147 18 (0 : Int32)).2.2.1 147 10).1 = (U.2.2.1 147 10).1 from rfl)]; omega)) (fun i hi => by rw [(show ((upI (upM U 152 0 (fun _ => (0 : Int64)) (wn - 0)) 147 18 (0 : Int32)).2.2.1 147 10) = (U.2.2.1 147 10) from rfl)]; exact ⟨(hpl i hi).1, by have := (hpl i hi).2; omega⟩) (by omega) hk1 hk2 hk3) ?_
          refine mw_go mu_g329 (k := 1) (f1 := (103, [(4, .inl (nI k)), (3, .inl (1 : Int32)), (2, .inl (nI lv)), (0, .inr (.inr (some 147))), (1, .inl (nI r))], [], Q33)) (C := []) rfl trivial ?_
          refine mw_sub (L' := [(4, .inl (nI k)), (0, .inr (.inr (some 147))), (1, .inl (nI r))]) (by simp) ?_
          refine mw_down (α := Nat × mu_H) (fun zs => (103, [(4, .inl (nI zs.1)), (0, .inr (.inr (some 147))), (1, .inl (nI r))], [], zs.2)) (fun zs => ls - zs.1) (fun zs => um m zs.2 ∧ ur m C H zs.2 ∧ (uq F329a (upI (upM U 152 0 (fun _ => (0 : Int64)) (wn - 0)) 147 18 (0 : Int32)) (ud m zs.2)) ∧ (k ≤ zs.1 ∧ zs.1 ≤ ls) ∧ (QUX (ud m zs.2) (MSO U pl mb me k zs.1) T wn)) (fun zs hza iha => ?_) (k, Q33) ⟨u33, ht33, (show uq F329a (upI (upM U 152 0 (fun _ => (0 : Int64)) (wn - 0)) 147 18 (0 : Int32)) (ud m Q33) from by rw [d33]; exact uq.refl _ _), (show k ≤ k ∧ k ≤ ls from ⟨Nat.le_refl _, by omega⟩), (show QUX (ud m Q33) (MSO U pl mb me k k) T wn from by rw [d33]; exact (QUX.zero (fun i hi => (by show (if 152 = 152 ∧ 0 ≤ i ∧ i < 0 + (wn - 0) then (0 : Int64) else U.2.2.2.2.1 152 i) = 0; rw [if_pos ⟨rfl, by omega, by omega⟩])) (by omega) rfl (fun t => mso_none)))⟩
          obtain ⟨y, Hsa⟩ := zs
          obtain ⟨ua, hta, da, hy, hQa⟩ := hza
          have ua : um m Hsa := ua
          have hta : ur m C H Hsa := hta
          have zza : uq F329a (upI (upM U 152 0 (fun _ => (0 : Int64)) (wn - 0)) 147 18 (0 : Int32)) (ud m Hsa) := da
          have hy : k ≤ y ∧ y ≤ ls := hy
          have hQa : QUX (ud m Hsa) (MSO U pl mb me k y) T wn := hQa
          obtain ⟨Va, da⟩ : ∃ V, ud m Hsa = V := ⟨_, rfl⟩
          rw [da] at zza hQa
          show mu_W _ _ (103, [(4, .inl (nI y)), (0, .inr (.inr (some 147))), (1, .inl (nI r))], [], Hsa) _
          refine mw_go mu_g329 (k := 3) (f1 := (109, [(4, .inl (nI y)), (0, .inr (.inr (some 147))), (1, .inl (nI r))], [.inl (mu_i Hsa 147 21), .inl (nI y)], Hsa)) (C := [mu_is Hsa (some 147) 2]) rfl (show mu_is Hsa (some 147) 2 from (ua.1.1.is rfl)) ?_
          rw [(show mu_i Hsa 147 21 = (nI ls) from (ud_i (U := Va) (m := m) (P := 147) (j := 21) da rfl).trans ((zza.i 147 21 rfl).trans hls))]
          refine mw_if (P := (nI y) < (nI ls)) (a := 112) (b := 227) (fun _ => rfl) trivial (fun h35 => ?_) (fun h35 => ?_)
          · -- 112: (nI y) < (nI ls)
            have nh35 : y < ls := (nI_ltI (by omega) (by omega)).mp (show nI y < nI ls from h35)
            refine mw_go mu_g329 (k := 3) (f1 := (117, [(4, .inl (nI y)), (0, .inr (.inr (some 147))), (1, .inl (nI r))], [.inl (6 : Int32), .inl (nI y), .inr (.inr (some 147))], Hsa)) (C := []) rfl trivial ?_
            refine mw_cIe (fun _ => rfl) (show mu_is Hsa (some 147) 2 from (ua.1.1.is rfl)) (gr_node (d := (d + 1)) (r := y) (c := 6) ua da (by (rw [(show (Va.2.2.1 147 10).1 = (U.2.2.1 147 10).1 from (zza.n 147 10 rfl))]; omega)) (by (rw [(show (Va.2.2.1 147 10).1 = (U.2.2.1 147 10).1 from (zza.n 147 10 rfl))]; omega))) ?_
            rw [show (Va.2.2.1 147 10).2 (y * 7 + 6) = nI (pl y) from (by rw [(show (Va.2.2.1 147 10) = (U.2.2.1 147 10) from (zza.a 147 10 rfl))]; exact (hpl y (by omega)).1)]
            have hply : pl y < R := (hpl y (by omega)).2
            obtain ⟨hmy1, hmy2⟩ := hmp1 (pl y) hply
            refine mw_go mu_g329 (k := 4) (f1 := (126, [(5, .inl (nI (pl y))), (4, .inl (nI y)), (0, .inr (.inr (some 147))), (1, .inl (nI r))], [.inl (0 : Int32), .inl (nI (pl y)), .inr (.inr (some 147))], Hsa)) (C := []) rfl trivial ?_
            refine mw_cIe (fun _ => rfl) (show mu_is Hsa (some 147) 2 from (ua.1.1.is rfl)) (gr_node (d := (d + 1)) (r := pl y) (c := 0) ua da (by (rw [(show (Va.2.2.1 147 10).1 = (U.2.2.1 147 10).1 from (zza.n 147 10 rfl))]; omega)) (by (rw [(show (Va.2.2.1 147 10).1 = (U.2.2.1 147 10).1 from (zza.n 147 10 rfl))]; omega))) ?_
            rw [show (Va.2.2.1 147 10).2 ((pl y) * 7 + 0) = nI (mb (pl y)) from (by rw [(show (Va.2.2.1 147 10) = (U.2.2.1 147 10) from (zza.a 147 10 rfl))]; exact hmb (pl y) (by omega))]
            refine mw_go mu_g329 (k := 1) (f1 := (131, [(6, .inl (nI (mb (pl y)))), (5, .inl (nI (pl y))), (4, .inl (nI y)), (0, .inr (.inr (some 147))), (1, .inl (nI r))], [], Hsa)) (C := []) rfl trivial ?_
            refine mw_sub (L' := [(6, .inl (nI (mb (pl y)))), (0, .inr (.inr (some 147))), (1, .inl (nI r)), (4, .inl (nI y)), (5, .inl (nI (pl y)))]) (by simp) ?_
            refine mw_down (α := Nat × mu_H) (fun zs => (131, [(6, .inl (nI zs.1)), (0, .inr (.inr (some 147))), (1, .inl (nI r)), (4, .inl (nI y)), (5, .inl (nI (pl y)))], [], zs.2)) (fun zs => mb (pl y + 1) - zs.1) (fun zs => um m zs.2 ∧ ur m C H zs.2 ∧ (uq F329b Va (ud m zs.2)) ∧ (mb (pl y) ≤ zs.1 ∧ zs.1 ≤ mb (pl y + 1)) ∧ (QUX (ud m zs.2) (MSI U pl mb me k y zs.1) T wn)) (fun zs hzb ihb => ?_) (mb (pl y), Hsa) ⟨ua, hta, (show uq F329b Va (ud m Hsa) from by rw [da]; exact uq.refl _ _), (show mb (pl y) ≤ (mb (pl y)) ∧ (mb (pl y)) ≤ mb (pl y + 1) from ⟨Nat.le_refl _, hmy1⟩), (show QUX (ud m Hsa) (MSI U pl mb me k y (mb (pl y))) T wn from by rw [da]; exact (hQa.cong (fun t => msi_start.symm)))⟩
            obtain ⟨x, Hsb⟩ := zs
            obtain ⟨ub, htb, db, hxx, hQb⟩ := hzb
            have ub : um m Hsb := ub
            have htb : ur m C H Hsb := htb
            have zzb : uq F329b Va (ud m Hsb) := db
            have hxx : mb (pl y) ≤ x ∧ x ≤ mb (pl y + 1) := hxx
            have hQb : QUX (ud m Hsb) (MSI U pl mb me k y x) T wn := hQb
            obtain ⟨Vb, db⟩ : ∃ V, ud m Hsb = V := ⟨_, rfl⟩
            rw [db] at zzb hQb
            show mu_W _ _ (131, [(6, .inl (nI x)), (0, .inr (.inr (some 147))), (1, .inl (nI r)), (4, .inl (nI y)), (5, .inl (nI (pl y)))], [], Hsb) _
            obtain ⟨tl, qu, hQ⟩ := id hQb
            have hq18 : Vb.2.1 147 18 = nI tl := hQ.1
            have hqr := hQ.room
            replace hQb := HID.mk hQb
            refine mw_go mu_g329 (k := 5) (f1 := (138, [(6, .inl (nI x)), (0, .inr (.inr (some 147))), (1, .inl (nI r)), (4, .inl (nI y)), (5, .inl (nI (pl y)))], [.inl ((nI (pl y)) + (1 : Int32)), .inr (.inr (some 147)), .inl (nI x)], Hsb)) (C := []) rfl trivial ?_
            rw [(show ((nI (pl y)) + (1 : Int32)) = (nI ((pl y) + 1)) from (nI_add (pl y) 1))]
            refine mw_go mu_g329 (k := 1) (f1 := (139, [(6, .inl (nI x)), (0, .inr (.inr (some 147))), (1, .inl (nI r)), (4, .inl (nI y)), (5, .inl (nI (pl y)))], [.inl (0 : Int32), .inl (nI ((pl y) + 1)), .inr (.inr (some 147)), .inl (nI x)], Hsb)) (C := []) rfl trivial ?_
            refine mw_cIe (fun _ => rfl) (show mu_is Hsb (some 147) 2 from (ub.1.1.is rfl)) (gr_node (d := (d + 1)) (r := (pl y) + 1) (c := 0) ub db (by (rw [(show (Vb.2.2.1 147 10).1 = (U.2.2.1 147 10).1 from ((zzb.n 147 10 rfl).trans (zza.n 147 10 rfl)))]; omega)) (by (rw [(show (Vb.2.2.1 147 10).1 = (U.2.2.1 147 10).1 from ((zzb.n 147 10 rfl).trans (zza.n 147 10 rfl)))]; omega))) ?_
            rw [show (Vb.2.2.1 147 10).2 (((pl y) + 1) * 7 + 0) = nI (mb ((pl y) + 1)) from (by rw [(show (Vb.2.2.1 147 10) = (U.2.2.1 147 10) from ((zzb.a 147 10 rfl).trans (zza.a 147 10 rfl)))]; exact hmb ((pl y) + 1) (by omega))]
            refine mw_if (P := (nI x) < (nI (mb ((pl y) + 1)))) (a := 145) (b := 221) (fun _ => rfl) trivial (fun h39 => ?_) (fun h39 => ?_)
            · -- 145: (nI x) < (nI (mb ((pl y) + 1)))
              have nh39 : x < (mb ((pl y) + 1)) := (nI_ltI (by omega) (by omega)).mp (show nI x < nI (mb ((pl y) + 1)) from h39)
              refine mw_go mu_g329 (k := 2) (f1 := (149, [(6, .inl (nI x)), (0, .inr (.inr (some 147))), (1, .inl (nI r)), (4, .inl (nI y)), (5, .inl (nI (pl y)))], [.inr (.inr (mu_r Hsb 147 7))], Hsb)) (C := [mu_is Hsb (some 147) 2]) rfl (show mu_is Hsb (some 147) 2 from (ub.1.1.is rfl)) ?_
              rw [(ub.1.1.r (p := 147) (j := 7) (q := 153) rfl)]
              refine mw_go mu_g329 (k := 2) (f1 := (153, [(6, .inl (nI x)), (0, .inr (.inr (some 147))), (1, .inl (nI r)), (4, .inl (nI y)), (5, .inl (nI (pl y)))], [.inr (.inr (mu_r Hsb 147 11)), .inr (.inr (some 153))], Hsb)) (C := [mu_is Hsb (some 147) 2]) rfl (show mu_is Hsb (some 147) 2 from (ub.1.1.is rfl)) ?_
              rw [(show mu_r Hsb 147 11 = (U.2.2.2.1 147 11) from (ud_q (U := Vb) (m := m) (P := 147) (j := 11) db rfl).trans ((zzb.r 147 11 rfl).trans (zza.r 147 11 rfl)))]
              refine mw_go mu_g329 (k := 2) (f1 := (156, [(6, .inl (nI x)), (0, .inr (.inr (some 147))), (1, .inl (nI r)), (4, .inl (nI y)), (5, .inl (nI (pl y)))], [.inl (mu_i Hsb (mu_p (U.2.2.2.1 147 11)) (nI x).toNatClampNeg), .inr (.inr (some 153))], Hsb)) (C := [mu_isr Hsb (U.2.2.2.1 147 11) 100, vp_in (nI x) (mu_n Hsb (mu_p (U.2.2.2.1 147 11)))]) rfl (show (mu_isr Hsb (U.2.2.2.1 147 11) 100) ∧ (vp_in (nI x) (mu_n Hsb (mu_p (U.2.2.2.1 147 11)))) from ⟨((ub.iA db rfl rfl (show Vb.2.2.2.1 147 11 = (U.2.2.2.1 147 11) from ((zzb.r 147 11 rfl).trans (zza.r 147 11 rfl))))).r, (ub.vA (i := x) db rfl rfl (show Vb.2.2.2.1 147 11 = (U.2.2.2.1 147 11) from ((zzb.r 147 11 rfl).trans (zza.r 147 11 rfl))) (show (Vb.2.2.1 147 11).1 = (U.2.2.1 147 11).1 from ((zzb.n 147 11 rfl).trans (zza.n 147 11 rfl))) (by omega) (by omega))⟩) ?_
              rw [(show (mu_i Hsb (mu_p (U.2.2.2.1 147 11)) (nI x).toNatClampNeg) = (nI (me x)) from ((congrArg (mu_i Hsb (mu_p (U.2.2.2.1 147 11))) (show (nI x).toNatClampNeg = x from nI_clamp (by omega))).trans (ub.gA db rfl rfl (show Vb.2.2.2.1 147 11 = (U.2.2.2.1 147 11) from ((zzb.r 147 11 rfl).trans (zza.r 147 11 rfl))))).trans ((congrArg (fun z => z.2 x) (show Vb.2.2.1 147 11 = (U.2.2.1 147 11) from ((zzb.a 147 11 rfl).trans (zza.a 147 11 rfl)))).trans (hme x (by omega)).1))]
              have hmx : me x < T := (hme x (by omega)).2
              refine mw_cI (fun _ => rfl) trivial ((pv_has_153 (d := (d + 1)) (k := (me x)) ub db (by omega)).imp (fun _ _ z => has_alt (b := bts (Vb.2.2.2.2.1 153) (me x)) z)) (fun x40 H40 q40 => ?_)
              rcases q40 with ⟨rfl, hb40, rfl⟩ | ⟨rfl, hb40, rfl⟩
              · -- (1 : Int32)
                have khb40 : bts (U.2.2.2.2.1 153) (me x) = true := by rw [← (show (Vb.2.2.2.2.1 153) = (U.2.2.2.2.1 153) from ((zzb.l 153 rfl).trans (zza.l 153 rfl)))]; exact hb40
                refine mw_if (P := (1 : Int32) = 0) (a := 215) (b := 162) (fun _ => rfl) trivial (fun h41 => absurd h41 (by decide)) (fun h41 => ?_)
                refine mw_go mu_g329 (k := 2) (f1 := (166, [(6, .inl (nI x)), (0, .inr (.inr (some 147))), (1, .inl (nI r)), (4, .inl (nI y)), (5, .inl (nI (pl y)))], [.inr (.inr (mu_r Hsb 147 6))], Hsb)) (C := [mu_is Hsb (some 147) 2]) rfl (show mu_is Hsb (some 147) 2 from (ub.1.1.is rfl)) ?_
                rw [(ub.1.1.r (p := 147) (j := 6) (q := 152) rfl)]
                refine mw_go mu_g329 (k := 2) (f1 := (170, [(6, .inl (nI x)), (0, .inr (.inr (some 147))), (1, .inl (nI r)), (4, .inl (nI y)), (5, .inl (nI (pl y)))], [.inr (.inr (mu_r Hsb 147 11)), .inr (.inr (some 152))], Hsb)) (C := [mu_is Hsb (some 147) 2]) rfl (show mu_is Hsb (some 147) 2 from (ub.1.1.is rfl)) ?_
                rw [(show mu_r Hsb 147 11 = (U.2.2.2.1 147 11) from (ud_q (U := Vb) (m := m) (P := 147) (j := 11) db rfl).trans ((zzb.r 147 11 rfl).trans (zza.r 147 11 rfl)))]
                refine mw_go mu_g329 (k := 2) (f1 := (173, [(6, .inl (nI x)), (0, .inr (.inr (some 147))), (1, .inl (nI r)), (4, .inl (nI y)), (5, .inl (nI (pl y)))], [.inl (mu_i Hsb (mu_p (U.2.2.2.1 147 11)) (nI x).toNatClampNeg), .inr (.inr (some 152))], Hsb)) (C := [mu_isr Hsb (U.2.2.2.1 147 11) 100, vp_in (nI x) (mu_n Hsb (mu_p (U.2.2.2.1 147 11)))]) rfl (show (mu_isr Hsb (U.2.2.2.1 147 11) 100) ∧ (vp_in (nI x) (mu_n Hsb (mu_p (U.2.2.2.1 147 11)))) from ⟨((ub.iA db rfl rfl (show Vb.2.2.2.1 147 11 = (U.2.2.2.1 147 11) from ((zzb.r 147 11 rfl).trans (zza.r 147 11 rfl))))).r, (ub.vA (i := x) db rfl rfl (show Vb.2.2.2.1 147 11 = (U.2.2.2.1 147 11) from ((zzb.r 147 11 rfl).trans (zza.r 147 11 rfl))) (show (Vb.2.2.1 147 11).1 = (U.2.2.1 147 11).1 from ((zzb.n 147 11 rfl).trans (zza.n 147 11 rfl))) (by omega) (by omega))⟩) ?_
                rw [(show (mu_i Hsb (mu_p (U.2.2.2.1 147 11)) (nI x).toNatClampNeg) = (nI (me x)) from ((congrArg (mu_i Hsb (mu_p (U.2.2.2.1 147 11))) (show (nI x).toNatClampNeg = x from nI_clamp (by omega))).trans (ub.gA db rfl rfl (show Vb.2.2.2.1 147 11 = (U.2.2.2.1 147 11) from ((zzb.r 147 11 rfl).trans (zza.r 147 11 rfl))))).trans ((congrArg (fun z => z.2 x) (show Vb.2.2.1 147 11 = (U.2.2.1 147 11) from ((zzb.a 147 11 rfl).trans (zza.a 147 11 rfl)))).trans (hme x (by omega)).1))]
                have hmx : me x < T := (hme x (by omega)).2
                refine mw_go mu_g329 (k := 2) (f1 := (176, [(6, .inl (nI x)), (0, .inr (.inr (some 147))), (1, .inl (nI r)), (4, .inl (nI y)), (5, .inl (nI (pl y)))], [.inl ((nI (me x)) >>> ((6 : Int32) &&& 31)), .inr (.inr (some 152))], Hsb)) (C := []) rfl trivial ?_
                rw [(show ((nI (me x)) >>> ((6 : Int32) &&& 31)) = (nI ((me x) / 64)) from (nI_shr6 (a := me x) (by omega)))]
                refine mw_go mu_g329 (k := 2) (f1 := (178, [(6, .inl (nI x)), (0, .inr (.inr (some 147))), (1, .inl (nI r)), (4, .inl (nI y)), (5, .inl (nI (pl y)))], [.inr (.inl (mu_l Hsb 152 (nI ((me x) / 64)).toNatClampNeg)), .inl (nI ((me x) / 64)), .inr (.inr (some 152))], Hsb)) (C := [mu_isr Hsb (some 152) 102, vp_in (nI ((me x) / 64)) (mu_n Hsb 152)]) rfl (show (mu_isr Hsb (some 152) 102) ∧ (vp_in (nI ((me x) / 64)) (mu_n Hsb 152)) from ⟨((ub.1.1.a (p := 152) (x := (102, 256)) rfl).1).r, (by rw [show mu_n Hsb 152 = 256 from (ub.1.1.a (p := 152) (x := (102, 256)) rfl).2]; exact vp_in_nI (n := (me x) / 64) (by omega) (by decide))⟩) ?_
                rw [(show (mu_l Hsb 152 (nI ((me x) / 64)).toNatClampNeg) = (Vb.2.2.2.2.1 152) ((me x) / 64) from (congrArg (mu_l Hsb 152) (show (nI ((me x) / 64)).toNatClampNeg = (me x) / 64 from nI_clamp (by omega))).trans ((ud_l (m := m) (p := 152) (i := ((me x) / 64)) db rfl).trans (congrFun (show Vb.2.2.2.2.1 152 = (Vb.2.2.2.2.1 152) from rfl) ((me x) / 64))))]
                refine mw_go mu_g329 (k := 3) (f1 := (183, [(6, .inl (nI x)), (0, .inr (.inr (some 147))), (1, .inl (nI r)), (4, .inl (nI y)), (5, .inl (nI (pl y)))], [.inr (.inr (mu_r Hsb 147 11)), .inr (.inl (1 : Int64)), .inr (.inl ((Vb.2.2.2.2.1 152) ((me x) / 64))), .inl (nI ((me x) / 64)), .inr (.inr (some 152))], Hsb)) (C := [mu_is Hsb (some 147) 2]) rfl (show mu_is Hsb (some 147) 2 from (ub.1.1.is rfl)) ?_
                rw [(show mu_r Hsb 147 11 = (U.2.2.2.1 147 11) from (ud_q (U := Vb) (m := m) (P := 147) (j := 11) db rfl).trans ((zzb.r 147 11 rfl).trans (zza.r 147 11 rfl)))]
                refine mw_go mu_g329 (k := 2) (f1 := (186, [(6, .inl (nI x)), (0, .inr (.inr (some 147))), (1, .inl (nI r)), (4, .inl (nI y)), (5, .inl (nI (pl y)))], [.inl (mu_i Hsb (mu_p (U.2.2.2.1 147 11)) (nI x).toNatClampNeg), .inr (.inl (1 : Int64)), .inr (.inl ((Vb.2.2.2.2.1 152) ((me x) / 64))), .inl (nI ((me x) / 64)), .inr (.inr (some 152))], Hsb)) (C := [mu_isr Hsb (U.2.2.2.1 147 11) 100, vp_in (nI x) (mu_n Hsb (mu_p (U.2.2.2.1 147 11)))]) rfl (show (mu_isr Hsb (U.2.2.2.1 147 11) 100) ∧ (vp_in (nI x) (mu_n Hsb (mu_p (U.2.2.2.1 147 11)))) from ⟨((ub.iA db rfl rfl (show Vb.2.2.2.1 147 11 = (U.2.2.2.1 147 11) from ((zzb.r 147 11 rfl).trans (zza.r 147 11 rfl))))).r, (ub.vA (i := x) db rfl rfl (show Vb.2.2.2.1 147 11 = (U.2.2.2.1 147 11) from ((zzb.r 147 11 rfl).trans (zza.r 147 11 rfl))) (show (Vb.2.2.1 147 11).1 = (U.2.2.1 147 11).1 from ((zzb.n 147 11 rfl).trans (zza.n 147 11 rfl))) (by omega) (by omega))⟩) ?_
                rw [(show (mu_i Hsb (mu_p (U.2.2.2.1 147 11)) (nI x).toNatClampNeg) = (nI (me x)) from ((congrArg (mu_i Hsb (mu_p (U.2.2.2.1 147 11))) (show (nI x).toNatClampNeg = x from nI_clamp (by omega))).trans (ub.gA db rfl rfl (show Vb.2.2.2.1 147 11 = (U.2.2.2.1 147 11) from ((zzb.r 147 11 rfl).trans (zza.r 147 11 rfl))))).trans ((congrArg (fun z => z.2 x) (show Vb.2.2.1 147 11 = (U.2.2.1 147 11) from ((zzb.a 147 11 rfl).trans (zza.a 147 11 rfl)))).trans (hme x (by omega)).1))]
                have hmx : me x < T := (hme x (by omega)).2
                refine mw_go mu_g329 (k := 3) (f1 := (189, [(6, .inl (nI x)), (0, .inr (.inr (some 147))), (1, .inl (nI r)), (4, .inl (nI y)), (5, .inl (nI (pl y)))], [], (mu_sl Hsb 152 (nI ((me x) / 64)).toNatClampNeg (((Vb.2.2.2.2.1 152) ((me x) / 64)) ||| ((1 : Int64) <<< ((nI (me x)).toInt64 &&& 63)))))) (C := [mu_is Hsb (some 152) 102, vp_in (nI ((me x) / 64)) (mu_n Hsb 152)]) rfl (show (mu_is Hsb (some 152) 102) ∧ (vp_in (nI ((me x) / 64)) (mu_n Hsb 152)) from ⟨((ub.1.1.a (p := 152) (x := (102, 256)) rfl).1), (by rw [show mu_n Hsb 152 = 256 from (ub.1.1.a (p := 152) (x := (102, 256)) rfl).2]; exact vp_in_nI (n := (me x) / 64) (by omega) (by decide))⟩) ?_
                rw [(show (nI ((me x) / 64)).toNatClampNeg = (me x) / 64 from nI_clamp (by omega))]
                obtain ⟨u42, r42, d42⟩ : um m (mu_sl Hsb 152 ((me x) / 64) (((Vb.2.2.2.2.1 152) ((me x) / 64)) ||| ((1 : Int64) <<< ((nI (me x)).toInt64 &&& 63)))) ∧ ur m C Hsb (mu_sl Hsb 152 ((me x) / 64) (((Vb.2.2.2.2.1 152) ((me x) / 64)) ||| ((1 : Int64) <<< ((nI (me x)).toInt64 &&& 63)))) ∧ ud m (mu_sl Hsb 152 ((me x) / 64) (((Vb.2.2.2.2.1 152) ((me x) / 64)) ||| ((1 : Int64) <<< ((nI (me x)).toInt64 &&& 63)))) = (upL Vb 152 ((me x) / 64) (((Vb.2.2.2.2.1 152) ((me x) / 64)) ||| ((1 : Int64) <<< ((nI (me x)).toInt64 &&& 63)))) := ub.sL (C := C) db rfl
                generalize (mu_sl Hsb 152 ((me x) / 64) (((Vb.2.2.2.2.1 152) ((me x) / 64)) ||| ((1 : Int64) <<< ((nI (me x)).toInt64 &&& 63)))) = Q42 at u42 r42 d42 ⊢
                have ht42 : ur m C H Q42 := htb.trans r42
                refine mw_go mu_g329 (k := 2) (f1 := (193, [(6, .inl (nI x)), (0, .inr (.inr (some 147))), (1, .inl (nI r)), (4, .inl (nI y)), (5, .inl (nI (pl y)))], [.inr (.inr (mu_r Q42 147 12))], Q42)) (C := [mu_is Q42 (some 147) 2]) rfl (show mu_is Q42 (some 147) 2 from (u42.1.1.is rfl)) ?_
                rw [(show mu_r Q42 147 12 = (U.2.2.2.1 147 12) from (ud_q (U := (upL Vb 152 ((me x) / 64) (((Vb.2.2.2.2.1 152) ((me x) / 64)) ||| ((1 : Int64) <<< ((nI (me x)).toInt64 &&& 63))))) (m := m) (P := 147) (j := 12) d42 rfl).trans ((zzb.r 147 12 rfl).trans (zza.r 147 12 rfl)))]
                refine mw_go mu_g329 (k := 2) (f1 := (197, [(6, .inl (nI x)), (0, .inr (.inr (some 147))), (1, .inl (nI r)), (4, .inl (nI y)), (5, .inl (nI (pl y)))], [.inl (mu_i Q42 147 18), .inr (.inr (U.2.2.2.1 147 12))], Q42)) (C := [mu_is Q42 (some 147) 2]) rfl (show mu_is Q42 (some 147) 2 from (u42.1.1.is rfl)) ?_
                rw [(show mu_i Q42 147 18 = (nI tl) from (ud_i (U := (upL Vb 152 ((me x) / 64) (((Vb.2.2.2.2.1 152) ((me x) / 64)) ||| ((1 : Int64) <<< ((nI (me x)).toInt64 &&& 63))))) (m := m) (P := 147) (j := 18) d42 rfl).trans hq18)]
                refine mw_go mu_g329 (k := 2) (f1 := (201, [(6, .inl (nI x)), (0, .inr (.inr (some 147))), (1, .inl (nI r)), (4, .inl (nI y)), (5, .inl (nI (pl y)))], [.inr (.inr (mu_r Q42 147 11)), .inl (nI tl), .inr (.inr (U.2.2.2.1 147 12))], Q42)) (C := [mu_is Q42 (some 147) 2]) rfl (show mu_is Q42 (some 147) 2 from (u42.1.1.is rfl)) ?_
                rw [(show mu_r Q42 147 11 = (U.2.2.2.1 147 11) from (ud_q (U := (upL Vb 152 ((me x) / 64) (((Vb.2.2.2.2.1 152) ((me x) / 64)) ||| ((1 : Int64) <<< ((nI (me x)).toInt64 &&& 63))))) (m := m) (P := 147) (j := 11) d42 rfl).trans ((zzb.r 147 11 rfl).trans (zza.r 147 11 rfl)))]
                refine mw_go mu_g329 (k := 2) (f1 := (204, [(6, .inl (nI x)), (0, .inr (.inr (some 147))), (1, .inl (nI r)), (4, .inl (nI y)), (5, .inl (nI (pl y)))], [.inl (mu_i Q42 (mu_p (U.2.2.2.1 147 11)) (nI x).toNatClampNeg), .inl (nI tl), .inr (.inr (U.2.2.2.1 147 12))], Q42)) (C := [mu_isr Q42 (U.2.2.2.1 147 11) 100, vp_in (nI x) (mu_n Q42 (mu_p (U.2.2.2.1 147 11)))]) rfl (show (mu_isr Q42 (U.2.2.2.1 147 11) 100) ∧ (vp_in (nI x) (mu_n Q42 (mu_p (U.2.2.2.1 147 11)))) from ⟨((u42.iA d42 rfl rfl (show (upL Vb 152 ((me x) / 64) (((Vb.2.2.2.2.1 152) ((me x) / 64)) ||| ((1 : Int64) <<< ((nI (me x)).toInt64 &&& 63)))).2.2.2.1 147 11 = (U.2.2.2.1 147 11) from ((zzb.r 147 11 rfl).trans (zza.r 147 11 rfl))))).r, (u42.vA (i := x) d42 rfl rfl (show (upL Vb 152 ((me x) / 64) (((Vb.2.2.2.2.1 152) ((me x) / 64)) ||| ((1 : Int64) <<< ((nI (me x)).toInt64 &&& 63)))).2.2.2.1 147 11 = (U.2.2.2.1 147 11) from ((zzb.r 147 11 rfl).trans (zza.r 147 11 rfl))) (show ((upL Vb 152 ((me x) / 64) (((Vb.2.2.2.2.1 152) ((me x) / 64)) ||| ((1 : Int64) <<< ((nI (me x)).toInt64 &&& 63)))).2.2.1 147 11).1 = (U.2.2.1 147 11).1 from ((zzb.n 147 11 rfl).trans (zza.n 147 11 rfl))) (by omega) (by omega))⟩) ?_
                rw [(show (mu_i Q42 (mu_p (U.2.2.2.1 147 11)) (nI x).toNatClampNeg) = (nI (me x)) from ((congrArg (mu_i Q42 (mu_p (U.2.2.2.1 147 11))) (show (nI x).toNatClampNeg = x from nI_clamp (by omega))).trans (u42.gA d42 rfl rfl (show (upL Vb 152 ((me x) / 64) (((Vb.2.2.2.2.1 152) ((me x) / 64)) ||| ((1 : Int64) <<< ((nI (me x)).toInt64 &&& 63)))).2.2.2.1 147 11 = (U.2.2.2.1 147 11) from ((zzb.r 147 11 rfl).trans (zza.r 147 11 rfl))))).trans ((congrArg (fun z => z.2 x) (show (upL Vb 152 ((me x) / 64) (((Vb.2.2.2.2.1 152) ((me x) / 64)) ||| ((1 : Int64) <<< ((nI (me x)).toInt64 &&& 63)))).2.2.1 147 11 = (U.2.2.1 147 11) from ((zzb.a 147 11 rfl).trans (zza.a 147 11 rfl)))).trans (hme x (by omega)).1))]
                have hmx : me x < T := (hme x (by omega)).2
                refine mw_go mu_g329 (k := 1) (f1 := (205, [(6, .inl (nI x)), (0, .inr (.inr (some 147))), (1, .inl (nI r)), (4, .inl (nI y)), (5, .inl (nI (pl y)))], [], (mu_si Q42 (mu_p (U.2.2.2.1 147 12)) (nI tl).toNatClampNeg (nI (me x))))) (C := [mu_is Q42 (U.2.2.2.1 147 12) 100, vp_in (nI tl) (mu_n Q42 (mu_p (U.2.2.2.1 147 12)))]) rfl (show (mu_is Q42 (U.2.2.2.1 147 12) 100) ∧ (vp_in (nI tl) (mu_n Q42 (mu_p (U.2.2.2.1 147 12)))) from ⟨(u42.iA d42 rfl rfl (show (upL Vb 152 ((me x) / 64) (((Vb.2.2.2.2.1 152) ((me x) / 64)) ||| ((1 : Int64) <<< ((nI (me x)).toInt64 &&& 63)))).2.2.2.1 147 12 = (U.2.2.2.1 147 12) from ((zzb.r 147 12 rfl).trans (zza.r 147 12 rfl)))), (u42.vA (i := tl) d42 rfl rfl (show (upL Vb 152 ((me x) / 64) (((Vb.2.2.2.2.1 152) ((me x) / 64)) ||| ((1 : Int64) <<< ((nI (me x)).toInt64 &&& 63)))).2.2.2.1 147 12 = (U.2.2.2.1 147 12) from ((zzb.r 147 12 rfl).trans (zza.r 147 12 rfl))) (show ((upL Vb 152 ((me x) / 64) (((Vb.2.2.2.2.1 152) ((me x) / 64)) ||| ((1 : Int64) <<< ((nI (me x)).toInt64 &&& 63)))).2.2.1 147 12).1 = (U.2.2.1 147 12).1 from ((zzb.n 147 12 rfl).trans (zza.n 147 12 rfl))) (by omega) (by omega))⟩) ?_
                rw [(show (nI tl).toNatClampNeg = tl from nI_clamp (by omega))]
                obtain ⟨u43, r43, d43⟩ : um m (mu_si Q42 (mu_p (U.2.2.2.1 147 12)) tl (nI (me x))) ∧ ur m C Q42 (mu_si Q42 (mu_p (U.2.2.2.1 147 12)) tl (nI (me x))) ∧ ud m (mu_si Q42 (mu_p (U.2.2.2.1 147 12)) tl (nI (me x))) = (upA (upL Vb 152 ((me x) / 64) (((Vb.2.2.2.2.1 152) ((me x) / 64)) ||| ((1 : Int64) <<< ((nI (me x)).toInt64 &&& 63)))) 147 12 tl (nI (me x))) := u42.sA (C := C) d42 rfl rfl (show (upL Vb 152 ((me x) / 64) (((Vb.2.2.2.2.1 152) ((me x) / 64)) ||| ((1 : Int64) <<< ((nI (me x)).toInt64 &&& 63)))).2.2.2.1 147 12 = (U.2.2.2.1 147 12) from ((zzb.r 147 12 rfl).trans (zza.r 147 12 rfl)))
                generalize (mu_si Q42 (mu_p (U.2.2.2.1 147 12)) tl (nI (me x))) = Q43 at u43 r43 d43 ⊢
                have ht43 : ur m C H Q43 := ht42.trans r43
                refine mw_go mu_g329 (k := 3) (f1 := (210, [(6, .inl (nI x)), (0, .inr (.inr (some 147))), (1, .inl (nI r)), (4, .inl (nI y)), (5, .inl (nI (pl y)))], [.inl (mu_i Q43 147 18), .inr (.inr (some 147))], Q43)) (C := [mu_is Q43 (some 147) 2]) rfl (show mu_is Q43 (some 147) 2 from (u43.1.1.is rfl)) ?_
                rw [(show mu_i Q43 147 18 = (nI tl) from (ud_i (U := (upA (upL Vb 152 ((me x) / 64) (((Vb.2.2.2.2.1 152) ((me x) / 64)) ||| ((1 : Int64) <<< ((nI (me x)).toInt64 &&& 63)))) 147 12 tl (nI (me x)))) (m := m) (P := 147) (j := 18) d43 rfl).trans hq18)]
                refine mw_go mu_g329 (k := 2) (f1 := (212, [(6, .inl (nI x)), (0, .inr (.inr (some 147))), (1, .inl (nI r)), (4, .inl (nI y)), (5, .inl (nI (pl y)))], [.inl ((nI tl) + (1 : Int32)), .inr (.inr (some 147))], Q43)) (C := []) rfl trivial ?_
                rw [(show ((nI tl) + (1 : Int32)) = (nI (tl + 1)) from (nI_add tl 1))]
                refine mw_go mu_g329 (k := 1) (f1 := (215, [(6, .inl (nI x)), (0, .inr (.inr (some 147))), (1, .inl (nI r)), (4, .inl (nI y)), (5, .inl (nI (pl y)))], [], (mu_si Q43 147 18 (nI (tl + 1))))) (C := [mu_is Q43 (some 147) 2]) rfl (show mu_is Q43 (some 147) 2 from (u43.1.1.is rfl)) ?_
                obtain ⟨u44, r44, d44⟩ : um m (mu_si Q43 147 18 (nI (tl + 1))) ∧ ur m C Q43 (mu_si Q43 147 18 (nI (tl + 1))) ∧ ud m (mu_si Q43 147 18 (nI (tl + 1))) = (upI (upA (upL Vb 152 ((me x) / 64) (((Vb.2.2.2.2.1 152) ((me x) / 64)) ||| ((1 : Int64) <<< ((nI (me x)).toInt64 &&& 63)))) 147 12 tl (nI (me x))) 147 18 (nI (tl + 1))) := u43.sI (C := C) d43 rfl
                generalize (mu_si Q43 147 18 (nI (tl + 1))) = Q44 at u44 r44 d44 ⊢
                have ht44 : ur m C H Q44 := ht43.trans r44
                refine mw_go mu_g329 (k := 1) (f1 := (218, [(6, .inl ((nI x) + 1)), (0, .inr (.inr (some 147))), (1, .inl (nI r)), (4, .inl (nI y)), (5, .inl (nI (pl y)))], [], Q44)) (C := []) rfl trivial ?_
                rw [(show ((nI x) + 1) = (nI (x + 1)) from (nI_add x 1))]
                refine mw_go mu_g329 (k := 1) (f1 := (131, [(6, .inl (nI (x + 1))), (0, .inr (.inr (some 147))), (1, .inl (nI r)), (4, .inl (nI y)), (5, .inl (nI (pl y)))], [], Q44)) (C := []) rfl trivial ?_
                exact mw_sub (by simp) (ihb (x + 1, Q44) ⟨u44, ht44, (show uq F329b Va (ud m Q44) from by rw [d44]; exact (((zzb.L rfl).A rfl).I rfl)), (show mb (pl y) ≤ (x + 1) ∧ (x + 1) ≤ mb (pl y + 1) from (by omega)), (show QUX (ud m Q44) (MSI U pl mb me k y (x + 1)) T wn from by rw [d44]; exact ⟨_, _, hQ.push hmx hTb (msi_new ⟨hmp1, hmp2, hmp3, hmp4⟩ (fun i hi => (hpl i hi).2) hinj (by omega) (by omega) (by omega)) (fun t => msi_yes (by omega) khb40)⟩)⟩ (by show mb (pl y + 1) - (x + 1) < mb (pl y + 1) - x; omega))
              · -- (0 : Int32)
                have khb40 : bts (U.2.2.2.2.1 153) (me x) = false := by rw [← (show (Vb.2.2.2.2.1 153) = (U.2.2.2.2.1 153) from ((zzb.l 153 rfl).trans (zza.l 153 rfl)))]; exact hb40
                refine mw_if (P := (0 : Int32) = 0) (a := 215) (b := 162) (fun _ => rfl) trivial (fun h45 => ?_) (fun h45 => absurd (by decide) h45)
                refine mw_go mu_g329 (k := 1) (f1 := (218, [(6, .inl ((nI x) + 1)), (0, .inr (.inr (some 147))), (1, .inl (nI r)), (4, .inl (nI y)), (5, .inl (nI (pl y)))], [], Hsb)) (C := []) rfl trivial ?_
                rw [(show ((nI x) + 1) = (nI (x + 1)) from (nI_add x 1))]
                refine mw_go mu_g329 (k := 1) (f1 := (131, [(6, .inl (nI (x + 1))), (0, .inr (.inr (some 147))), (1, .inl (nI r)), (4, .inl (nI y)), (5, .inl (nI (pl y)))], [], Hsb)) (C := []) rfl trivial ?_
                exact mw_sub (by simp) (ihb (x + 1, Hsb) ⟨ub, htb, (show uq F329b Va (ud m Hsb) from by rw [db]; exact zzb), (show mb (pl y) ≤ (x + 1) ∧ (x + 1) ≤ mb (pl y + 1) from (by omega)), (show QUX (ud m Hsb) (MSI U pl mb me k y (x + 1)) T wn from by rw [db]; exact (hQb.out.cong (fun t => msi_no khb40)))⟩ (by show mb (pl y + 1) - (x + 1) < mb (pl y + 1) - x; omega))
            · -- 221: not (nI x) < (nI (mb ((pl y) + 1)))
              have nh39 : ¬ x < (mb ((pl y) + 1)) := fun z => h39 (show nI x < nI (mb ((pl y) + 1)) from (nI_ltI (by omega) (by omega)).mpr z)
              refine mw_go mu_g329 (k := 1) (f1 := (224, [(4, .inl ((nI y) + 1)), (6, .inl (nI x)), (0, .inr (.inr (some 147))), (1, .inl (nI r)), (5, .inl (nI (pl y)))], [], Hsb)) (C := []) rfl trivial ?_
              rw [(show ((nI y) + 1) = (nI (y + 1)) from (nI_add y 1))]
              refine mw_go mu_g329 (k := 1) (f1 := (103, [(4, .inl (nI (y + 1))), (6, .inl (nI x)), (0, .inr (.inr (some 147))), (1, .inl (nI r)), (5, .inl (nI (pl y)))], [], Hsb)) (C := []) rfl trivial ?_
              exact mw_sub (by simp) (iha (y + 1, Hsb) ⟨ub, htb, (show uq F329a (upI (upM U 152 0 (fun _ => (0 : Int64)) (wn - 0)) 147 18 (0 : Int32)) (ud m Hsb) from by rw [db]; exact (zza.tr zzb rfl)), (show k ≤ (y + 1) ∧ (y + 1) ≤ ls from (by omega)), (show QUX (ud m Hsb) (MSO U pl mb me k (y + 1)) T wn from by rw [db]; exact (hQb.out.cong (fun t => msi_end hy.1 (by omega))))⟩ (by show ls - (y + 1) < ls - y; omega))
          · -- 227: not (nI y) < (nI ls)
            have nh35 : ¬ y < ls := fun z => h35 (show nI y < nI ls from (nI_ltI (by omega) (by omega)).mpr z)
            refine mw_go mu_g329 (k := 1) (f1 := (228, [(4, .inl (nI y)), (0, .inr (.inr (some 147))), (1, .inl (nI r))], [.inl (1 : Int32)], Hsa)) (C := []) rfl trivial ?_
            have hyl : y = ls := by omega
            rw [hyl] at hQa
            obtain ⟨tl, qu, hQ⟩ := hQa
            refine mw_of (fun _ => mu_ret rfl (Or.inr rfl) ⟨_, Hsa, rfl, ua, hta, Or.inr (Or.inr ⟨rfl, by omega, by omega, by omega, by omega, (by rw [da]; exact (show uq F329 U Va from ((((uq.refl F329 U).M rfl).I rfl).tr zza rfl))), tl, qu, ?_⟩)⟩)
            rw [da]
            obtain ⟨k1, k2, k3, k4, k5, k6⟩ := hQ
            have hcv : ∀ t, MSO U pl mb me k ls t ↔ t < T ∧ bts (U.2.2.2.2.1 153) t = true ∧ SCC pl k ls (rx t) := fun t => by
              have hR2 : ∀ i, i < ls → pl i < R := fun i hi => (hpl i hi).2
              constructor
              · intro z
                have zT := mso_T (T := T) (fun i hi => (hme i hi).2) (fun i hi => (hmp1 _ (hR2 i hi)).2) z
                exact ⟨zT, (mso_scc ⟨hmp1, hmp2, hmp3, hmp4⟩ hR2 zT).mp z⟩
              · rintro ⟨z1, z2⟩
                exact (mso_scc ⟨hmp1, hmp2, hmp3, hmp4⟩ hR2 z1).mpr z2
            exact ⟨k1, k2, k3, fun t => (k4 t).trans (hcv t), fun t ht => (k5 t ht).trans (hcv t), k6⟩
    · -- 52: not ((nI lv) &&& (1 : Int32)) = 0
      have hl1 : lv % 2 = 1 := Classical.byContradiction (fun z => h27 ((and41 lv hlv4).mpr z))
      refine mw_go mu_g329 (k := 1) (f1 := (53, [(3, .inl (1 : Int32)), (2, .inl (nI lv)), (0, .inr (.inr (some 147))), (1, .inl (nI r))], [.inl (0 : Int32)], H)) (C := []) rfl trivial ?_
      refine mw_of (fun _ => mu_ret rfl (Or.inl rfl) ⟨_, H, rfl, h, (ur.refl m C H), Or.inl ⟨rfl, e, by omega⟩⟩)
end OpenRing
