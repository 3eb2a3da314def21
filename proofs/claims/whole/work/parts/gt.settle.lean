/-! GRAPH: what was found together is settled; a row is left -/
/-- the members of the rows of the pile from k on, before y -/
def MSO (U : Ud) (pl mb me : Nat → Nat) (k y t : Nat) : Prop := ∃ i0 i, k ≤ i0 ∧ i0 < y ∧ mb (pl i0) ≤ i ∧ i < mb (pl i0 + 1) ∧ me i = t ∧ bts (U.2.2.2.2.1 153) t = true
section Settle
variable {H : mu_H} {U V : Ud} {m d T R wn ls r k lv ga gi gq x y t pz ab la da lr dr : Nat} {C : Nat → Nat} {rx mb me pl : Nat → Nat} {La : Nat → Int64}
theorem mso_step (hk : k ≤ y) : MSO U pl mb me k (y + 1) t ↔ MSO U pl mb me k y t ∨ ∃ i, mb (pl y) ≤ i ∧ i < mb (pl y + 1) ∧ me i = t ∧ bts (U.2.2.2.2.1 153) t = true := by
  constructor
  · rintro ⟨i0, i, y1, y2, y3⟩
    rcases Nat.lt_or_ge i0 y with z | z
    · exact Or.inl ⟨i0, i, y1, z, y3⟩
    · rw [show i0 = y by omega] at y3
      exact Or.inr ⟨i, y3⟩
  · rintro (⟨i0, i, y1, y2, y3⟩ | ⟨i, y3⟩)
    · exact ⟨i0, i, y1, by omega, y3⟩
    · exact ⟨y, i, hk, by omega, y3⟩
theorem mso_scc (hM : MBP T R rx mb me) (hp : ∀ i, i < ls → pl i < R) (ht : t < T) : MSO U pl mb me k ls t ↔ bts (U.2.2.2.2.1 153) t = true ∧ SCC pl k ls (rx t) := by
  constructor
  · rintro ⟨i0, i, y1, y2, y3, y4, y5, y6⟩
    exact ⟨y6, i0, y1, y2, ((MBP.mem hM (hp i0 y2) ht).mp ⟨i, y3, y4, y5⟩).symm⟩
  · rintro ⟨y6, i0, y1, y2, y3⟩
    obtain ⟨i, w1, w2, w3⟩ := (MBP.mem hM (hp i0 y2) ht).mpr y3.symm
    exact ⟨i0, i, y1, y2, w1, w2, w3, y6⟩
theorem mso_none : ¬ MSO U pl mb me k k t := fun ⟨i0, i, y1, y2, _⟩ => by omega
theorem mso_T (hm : ∀ i, i < T → me i < T) (hb : ∀ i, i < ls → mb (pl i + 1) ≤ T) (h : MSO U pl mb me k ls t) : t < T := by
  obtain ⟨i0, i, y1, y2, y3, y4, y5, y6⟩ := h
  rw [← y5]
  exact hm i (by have := hb i0 y2; omega)
theorem bts_or0 : bts (fun j => if j = x then La x ||| (0 : Int64) else La j) t = bts La t := by
  unfold bts
  show btz (if t / 64 = x then La x ||| (0 : Int64) else La (t / 64)) (t % 64) = _
  by_cases h : t / 64 = x
  · rw [if_pos h, btz_or, btz_0, Bool.or_false, h]
  · rw [if_neg h]
def F332 : Uf := ⟨[], [(147, 21)], [], [], [151, 148, 162], true⟩
def F332a : Uf := ⟨[], [], [], [], [151, 148, 162], true⟩
def F332b : Uf := ⟨[], [], [], [], [151, 148, 162], true⟩
/-- PathProver$Graph.settle(I)V -/
abbrev mu_m332 : ev_M := (8, none, [], ev_b332)
theorem mu_g332 : mu_good mu_m332 := mu_goodk ev_k332
theorem gr_settle (h : um m H) (e : ud m H = U) (hG : GRB U T R wn rx mb me) (hgl : LSN U ga gi gq 256) (hgo : U.2.2.2.1 147 8 = some gq) (hls : U.2.1 147 21 = nI ls) (hlsb : ls ≤ T + 1) (hpl : ∀ i, i < ls → (U.2.2.1 147 10).2 (i * 7 + 6) = nI (pl i) ∧ pl i < R) (hr : r < R) (hk1 : k < ls) (hk2 : pl k = r) (hk3 : ∀ i, k < i → i < ls → ¬ pl i = r) (hlv : (U.2.2.1 147 10).2 (r * 7 + 4) = nI lv) (hlv4 : lv < 4) : mu_TV (mu_D (d + 3)) 332 [.inr (.inr (some 147)), .inl (nI r)] H (fun H1 => um m H1 ∧ ur m C H H1 ∧ uq F332 U (ud m H1) ∧ (ud m H1).2.1 147 21 = nI k ∧ GKP ga gi U (ud m H1) ∧ LSN (ud m H1) ga gi gq 256 ∧ ((∀ t, t < T → (bts ((ud m H1).2.2.2.2.1 151) t = true ↔ bts (U.2.2.2.2.1 151) t = true ∧ ¬ (bts (U.2.2.2.2.1 153) t = true ∧ SCC pl k ls (rx t)))) ∧ ∀ t, bts ((ud m H1).2.2.2.2.1 151) t = true → bts (U.2.2.2.2.1 151) t = true) ∧ (∀ t, t < T → (bts (lgf (ud m H1) ga gi) t = true ↔ bts (lgf U ga gi) t = true ∨ (lv % 2 = 1 ∧ bts (U.2.2.2.2.1 153) t = true ∧ SCC pl k ls (rx t)))) ∧ ∀ t, bts (lgf (ud m H1) ga gi) t = true → bts (lgf U ga gi) t = true ∨ t < T) := by
  obtain ⟨⟨⟨hg12, hg11⟩, hgwn, hTb⟩, ⟨⟨g6a, g6b⟩, hrx⟩, ⟨hRT, g10a, g10b⟩, ⟨g11a, g11b⟩, ⟨g12a, g12b⟩, ⟨g13a, g13b⟩, hmb, hme, hmp1, hmp2, hmp3, hmp4⟩ := id hG
  refine mu_meth (M := mu_m332) rfl rfl ?_
  refine mw_ht (mu_fn_of (show [0, 1].Nodup by decide)) ?_
  refine mw_go mu_g332 (k := 2) (f1 := (2, [(0, .inr (.inr (some 147))), (1, .inl (nI r))], [.inl (nI r), .inr (.inr (some 147))], H)) (C := []) rfl trivial ?_
  refine mw_cIe (fun _ => rfl) (show mu_is H (some 147) 2 from (h.1.1.is rfl)) (gr_ring (d := d) (ps := ls) (pl := pl) (r := r) (q := k) h e hls (by omega) (by omega) (fun i hi => ⟨(hpl i hi).1, by have := (hpl i hi).2; omega⟩) (by omega) hk1 hk2 hk3) ?_
  refine mw_go mu_g332 (k := 4) (f1 := (9, [(2, .inl (nI k)), (0, .inr (.inr (some 147))), (1, .inl (nI r))], [.inl (4 : Int32), .inl (nI r), .inr (.inr (some 147))], H)) (C := []) rfl trivial ?_
  refine mw_cIe (fun _ => rfl) (show mu_is H (some 147) 2 from (h.1.1.is rfl)) (gr_node (d := (d + 1)) (r := r) (c := 4) h e (by omega) (by omega)) ?_
  rw [show (U.2.2.1 147 10).2 (r * 7 + 4) = nI lv from (by exact hlv)]
  refine mw_go mu_g332 (k := 2) (f1 := (14, [(2, .inl (nI k)), (0, .inr (.inr (some 147))), (1, .inl (nI r))], [.inl ((nI lv) &&& (1 : Int32))], H)) (C := []) rfl trivial ?_
  refine mw_if (P := ((nI lv) &&& (1 : Int32)) = 0) (a := 21) (b := 17) (fun _ => rfl) trivial (fun h3 => ?_) (fun h3 => ?_)
  · -- 21: ((nI lv) &&& (1 : Int32)) = 0
    have hfin : ¬ lv % 2 = 1 := (and41 lv hlv4).mp h3
    refine mw_go mu_g332 (k := 4) (f1 := (26, [(4, .inl (nI k)), (3, .inl (0 : Int32)), (2, .inl (nI k)), (0, .inr (.inr (some 147))), (1, .inl (nI r))], [], H)) (C := []) rfl trivial ?_
    refine mw_sub (L' := [(4, .inl (nI k)), (0, .inr (.inr (some 147))), (1, .inl (nI r)), (2, .inl (nI k)), (3, .inl (0 : Int32))]) (by simp) ?_
    refine mw_down (α := Nat × mu_H) (fun zs => (26, [(4, .inl (nI zs.1)), (0, .inr (.inr (some 147))), (1, .inl (nI r)), (2, .inl (nI k)), (3, .inl (0 : Int32))], [], zs.2)) (fun zs => ls - zs.1) (fun zs => um m zs.2 ∧ ur m C H zs.2 ∧ (uq F332a U (ud m zs.2)) ∧ (k ≤ zs.1 ∧ zs.1 ≤ ls) ∧ (LSN (ud m zs.2) ga gi gq 256) ∧ (GKP ga gi U (ud m zs.2)) ∧ (∀ t, bts ((ud m zs.2).2.2.2.2.1 151) t = true ↔ bts (U.2.2.2.2.1 151) t = true ∧ ¬ MSO U pl mb me k zs.1 t) ∧ (∀ t, bts (lgf (ud m zs.2) ga gi) t = true ↔ bts (lgf U ga gi) t = true ∨ (lv % 2 = 1 ∧ MSO U pl mb me k zs.1 t))) (fun zs hza iha => ?_) (k, H) ⟨h, (ur.refl m C H), (show uq F332a U (ud m H) from by rw [e]; exact uq.refl _ _), (show k ≤ k ∧ k ≤ ls from ⟨Nat.le_refl _, by omega⟩), (show LSN (ud m H) ga gi gq 256 from by rw [e]; exact hgl), (show GKP ga gi U (ud m H) from by rw [e]; exact (GKP.refl _ _ _)), (show ∀ t, bts ((ud m H).2.2.2.2.1 151) t = true ↔ bts (U.2.2.2.2.1 151) t = true ∧ ¬ MSO U pl mb me k k t from by rw [e]; exact (fun t => ⟨fun z => ⟨z, mso_none⟩, fun z => z.1⟩)), (show ∀ t, bts (lgf (ud m H) ga gi) t = true ↔ bts (lgf U ga gi) t = true ∨ (lv % 2 = 1 ∧ MSO U pl mb me k k t) from by rw [e]; exact (fun t => ⟨fun z => Or.inl z, fun z => z.resolve_right (fun w => mso_none w.2)⟩))⟩
    obtain ⟨y, Hsa⟩ := zs
    obtain ⟨ua, hta, da, hy, hga, hka, hpa, hva⟩ := hza
    have ua : um m Hsa := ua
    have hta : ur m C H Hsa := hta
    have zza : uq F332a U (ud m Hsa) := da
    have hy : k ≤ y ∧ y ≤ ls := hy
    have hga : LSN (ud m Hsa) ga gi gq 256 := hga
    have hka : GKP ga gi U (ud m Hsa) := hka
    have hpa : ∀ t, bts ((ud m Hsa).2.2.2.2.1 151) t = true ↔ bts (U.2.2.2.2.1 151) t = true ∧ ¬ MSO U pl mb me k y t := hpa
    have hva : ∀ t, bts (lgf (ud m Hsa) ga gi) t = true ↔ bts (lgf U ga gi) t = true ∨ (lv % 2 = 1 ∧ MSO U pl mb me k y t) := hva
    obtain ⟨Va, da⟩ : ∃ V, ud m Hsa = V := ⟨_, rfl⟩
    rw [da] at zza hga hka hpa hva
    have qfa : uq F332 U Va := (uq.refl F332 U).tr zza rfl
    show mu_W _ _ (26, [(4, .inl (nI y)), (0, .inr (.inr (some 147))), (1, .inl (nI r)), (2, .inl (nI k)), (3, .inl (0 : Int32))], [], Hsa) _
    refine mw_go mu_g332 (k := 3) (f1 := (32, [(4, .inl (nI y)), (0, .inr (.inr (some 147))), (1, .inl (nI r)), (2, .inl (nI k)), (3, .inl (0 : Int32))], [.inl (mu_i Hsa 147 21), .inl (nI y)], Hsa)) (C := [mu_is Hsa (some 147) 2]) rfl (show mu_is Hsa (some 147) 2 from (ua.1.1.is rfl)) ?_
    rw [(show mu_i Hsa 147 21 = (nI ls) from (ud_i (U := Va) (m := m) (P := 147) (j := 21) da rfl).trans ((zza.i 147 21 rfl).trans hls))]
    refine mw_if (P := (nI y) < (nI ls)) (a := 35) (b := 147) (fun _ => rfl) trivial (fun h4 => ?_) (fun h4 => ?_)
    · -- 35: (nI y) < (nI ls)
      have nh4 : y < ls := (nI_ltI (by omega) (by omega)).mp (show nI y < nI ls from h4)
      refine mw_go mu_g332 (k := 3) (f1 := (40, [(4, .inl (nI y)), (0, .inr (.inr (some 147))), (1, .inl (nI r)), (2, .inl (nI k)), (3, .inl (0 : Int32))], [.inl (6 : Int32), .inl (nI y), .inr (.inr (some 147))], Hsa)) (C := []) rfl trivial ?_
      refine mw_cIe (fun _ => rfl) (show mu_is Hsa (some 147) 2 from (ua.1.1.is rfl)) (gr_node (d := (d + 1)) (r := y) (c := 6) ua da (by (rw [(show (Va.2.2.1 147 10).1 = (U.2.2.1 147 10).1 from (zza.n 147 10 rfl))]; omega)) (by (rw [(show (Va.2.2.1 147 10).1 = (U.2.2.1 147 10).1 from (zza.n 147 10 rfl))]; omega))) ?_
      rw [show (Va.2.2.1 147 10).2 (y * 7 + 6) = nI (pl y) from (by rw [(show (Va.2.2.1 147 10) = (U.2.2.1 147 10) from (zza.a 147 10 rfl))]; exact (hpl y (by omega)).1)]
      have hply : pl y < R := (hpl y (by omega)).2
      obtain ⟨hmy1, hmy2⟩ := hmp1 (pl y) hply
      refine mw_go mu_g332 (k := 4) (f1 := (49, [(5, .inl (nI (pl y))), (4, .inl (nI y)), (0, .inr (.inr (some 147))), (1, .inl (nI r)), (2, .inl (nI k)), (3, .inl (0 : Int32))], [.inl (0 : Int32), .inl (nI (pl y)), .inr (.inr (some 147))], Hsa)) (C := []) rfl trivial ?_
      refine mw_cIe (fun _ => rfl) (show mu_is Hsa (some 147) 2 from (ua.1.1.is rfl)) (gr_node (d := (d + 1)) (r := pl y) (c := 0) ua da (by (rw [(show (Va.2.2.1 147 10).1 = (U.2.2.1 147 10).1 from (zza.n 147 10 rfl))]; omega)) (by (rw [(show (Va.2.2.1 147 10).1 = (U.2.2.1 147 10).1 from (zza.n 147 10 rfl))]; omega))) ?_
      rw [show (Va.2.2.1 147 10).2 ((pl y) * 7 + 0) = nI (mb (pl y)) from (by rw [(show (Va.2.2.1 147 10) = (U.2.2.1 147 10) from (zza.a 147 10 rfl))]; exact hmb (pl y) (by have := (hpl y (by omega)).2; omega))]
      refine mw_go mu_g332 (k := 1) (f1 := (54, [(6, .inl (nI (mb (pl y)))), (5, .inl (nI (pl y))), (4, .inl (nI y)), (0, .inr (.inr (some 147))), (1, .inl (nI r)), (2, .inl (nI k)), (3, .inl (0 : Int32))], [], Hsa)) (C := []) rfl trivial ?_
      refine mw_sub (L' := [(6, .inl (nI (mb (pl y)))), (0, .inr (.inr (some 147))), (1, .inl (nI r)), (2, .inl (nI k)), (3, .inl (0 : Int32)), (4, .inl (nI y)), (5, .inl (nI (pl y)))]) (by simp) ?_
      refine mw_down (α := Nat × mu_H) (fun zs => (54, [(6, .inl (nI zs.1)), (0, .inr (.inr (some 147))), (1, .inl (nI r)), (2, .inl (nI k)), (3, .inl (0 : Int32)), (4, .inl (nI y)), (5, .inl (nI (pl y)))], [], zs.2)) (fun zs => mb (pl y + 1) - zs.1) (fun zs => um m zs.2 ∧ ur m C H zs.2 ∧ (uq F332b Va (ud m zs.2)) ∧ (mb (pl y) ≤ zs.1 ∧ zs.1 ≤ mb (pl y + 1)) ∧ (LSN (ud m zs.2) ga gi gq 256) ∧ (GKP ga gi U (ud m zs.2)) ∧ (∀ t, bts ((ud m zs.2).2.2.2.2.1 151) t = true ↔ (bts (U.2.2.2.2.1 151) t = true ∧ ¬ MSO U pl mb me k y t) ∧ ¬ ∃ i, mb (pl y) ≤ i ∧ i < zs.1 ∧ me i = t ∧ bts (U.2.2.2.2.1 153) t = true) ∧ (∀ t, bts (lgf (ud m zs.2) ga gi) t = true ↔ (bts (lgf U ga gi) t = true ∨ (lv % 2 = 1 ∧ MSO U pl mb me k y t)) ∨ (lv % 2 = 1 ∧ ∃ i, mb (pl y) ≤ i ∧ i < zs.1 ∧ me i = t ∧ bts (U.2.2.2.2.1 153) t = true))) (fun zs hzb ihb => ?_) (mb (pl y), Hsa) ⟨ua, hta, (show uq F332b Va (ud m Hsa) from by rw [da]; exact uq.refl _ _), (show mb (pl y) ≤ (mb (pl y)) ∧ (mb (pl y)) ≤ mb (pl y + 1) from ⟨Nat.le_refl _, (hmp1 (pl y) (hpl y (by omega)).2).1⟩), (show LSN (ud m Hsa) ga gi gq 256 from by rw [da]; exact hga), (show GKP ga gi U (ud m Hsa) from by rw [da]; exact hka), (show ∀ t, bts ((ud m Hsa).2.2.2.2.1 151) t = true ↔ (bts (U.2.2.2.2.1 151) t = true ∧ ¬ MSO U pl mb me k y t) ∧ ¬ ∃ i, mb (pl y) ≤ i ∧ i < (mb (pl y)) ∧ me i = t ∧ bts (U.2.2.2.2.1 153) t = true from by rw [da]; exact (fun t => by rw [hpa t]; exact ⟨fun z => ⟨z, fun ⟨i, w1, w2, _⟩ => absurd w2 (by omega)⟩, fun z => z.1⟩)), (show ∀ t, bts (lgf (ud m Hsa) ga gi) t = true ↔ (bts (lgf U ga gi) t = true ∨ (lv % 2 = 1 ∧ MSO U pl mb me k y t)) ∨ (lv % 2 = 1 ∧ ∃ i, mb (pl y) ≤ i ∧ i < (mb (pl y)) ∧ me i = t ∧ bts (U.2.2.2.2.1 153) t = true) from by rw [da]; exact (fun t => by rw [hva t]; exact ⟨fun z => Or.inl z, fun z => z.resolve_right (fun ⟨_, i, w1, w2, _⟩ => absurd w2 (by omega))⟩))⟩
      obtain ⟨x, Hsb⟩ := zs
      obtain ⟨ub, htb, db, hxx, hgb, hkb, hpb, hvb⟩ := hzb
      have ub : um m Hsb := ub
      have htb : ur m C H Hsb := htb
      have zzb : uq F332b Va (ud m Hsb) := db
      have hxx : mb (pl y) ≤ x ∧ x ≤ mb (pl y + 1) := hxx
      have hgb : LSN (ud m Hsb) ga gi gq 256 := hgb
      have hkb : GKP ga gi U (ud m Hsb) := hkb
      have hpb : ∀ t, bts ((ud m Hsb).2.2.2.2.1 151) t = true ↔ (bts (U.2.2.2.2.1 151) t = true ∧ ¬ MSO U pl mb me k y t) ∧ ¬ ∃ i, mb (pl y) ≤ i ∧ i < x ∧ me i = t ∧ bts (U.2.2.2.2.1 153) t = true := hpb
      have hvb : ∀ t, bts (lgf (ud m Hsb) ga gi) t = true ↔ (bts (lgf U ga gi) t = true ∨ (lv % 2 = 1 ∧ MSO U pl mb me k y t)) ∨ (lv % 2 = 1 ∧ ∃ i, mb (pl y) ≤ i ∧ i < x ∧ me i = t ∧ bts (U.2.2.2.2.1 153) t = true) := hvb
      obtain ⟨Vb, db⟩ : ∃ V, ud m Hsb = V := ⟨_, rfl⟩
      rw [db] at zzb hgb hkb hpb hvb
      have qfb : uq F332 U Vb := qfa.tr zzb rfl
      show mu_W _ _ (54, [(6, .inl (nI x)), (0, .inr (.inr (some 147))), (1, .inl (nI r)), (2, .inl (nI k)), (3, .inl (0 : Int32)), (4, .inl (nI y)), (5, .inl (nI (pl y)))], [], Hsb) _
      refine mw_go mu_g332 (k := 5) (f1 := (61, [(6, .inl (nI x)), (0, .inr (.inr (some 147))), (1, .inl (nI r)), (2, .inl (nI k)), (3, .inl (0 : Int32)), (4, .inl (nI y)), (5, .inl (nI (pl y)))], [.inl ((nI (pl y)) + (1 : Int32)), .inr (.inr (some 147)), .inl (nI x)], Hsb)) (C := []) rfl trivial ?_
      rw [(show ((nI (pl y)) + (1 : Int32)) = (nI ((pl y) + 1)) from (nI_add (pl y) 1))]
      refine mw_go mu_g332 (k := 1) (f1 := (62, [(6, .inl (nI x)), (0, .inr (.inr (some 147))), (1, .inl (nI r)), (2, .inl (nI k)), (3, .inl (0 : Int32)), (4, .inl (nI y)), (5, .inl (nI (pl y)))], [.inl (0 : Int32), .inl (nI ((pl y) + 1)), .inr (.inr (some 147)), .inl (nI x)], Hsb)) (C := []) rfl trivial ?_
      refine mw_cIe (fun _ => rfl) (show mu_is Hsb (some 147) 2 from (ub.1.1.is rfl)) (gr_node (d := (d + 1)) (r := (pl y) + 1) (c := 0) ub db (by (rw [(show (Vb.2.2.1 147 10).1 = (U.2.2.1 147 10).1 from ((zzb.n 147 10 rfl).trans (zza.n 147 10 rfl)))]; omega)) (by (rw [(show (Vb.2.2.1 147 10).1 = (U.2.2.1 147 10).1 from ((zzb.n 147 10 rfl).trans (zza.n 147 10 rfl)))]; omega))) ?_
      rw [show (Vb.2.2.1 147 10).2 (((pl y) + 1) * 7 + 0) = nI (mb ((pl y) + 1)) from (by rw [(show (Vb.2.2.1 147 10) = (U.2.2.1 147 10) from ((zzb.a 147 10 rfl).trans (zza.a 147 10 rfl)))]; exact hmb ((pl y) + 1) (by have := (hpl y (by omega)).2; omega))]
      refine mw_if (P := (nI x) < (nI (mb ((pl y) + 1)))) (a := 68) (b := 141) (fun _ => rfl) trivial (fun h8 => ?_) (fun h8 => ?_)
      · -- 68: (nI x) < (nI (mb ((pl y) + 1)))
        have nh8 : x < (mb ((pl y) + 1)) := (nI_ltI (by omega) (by omega)).mp (show nI x < nI (mb ((pl y) + 1)) from h8)
        refine mw_go mu_g332 (k := 2) (f1 := (72, [(6, .inl (nI x)), (0, .inr (.inr (some 147))), (1, .inl (nI r)), (2, .inl (nI k)), (3, .inl (0 : Int32)), (4, .inl (nI y)), (5, .inl (nI (pl y)))], [.inr (.inr (mu_r Hsb 147 11))], Hsb)) (C := [mu_is Hsb (some 147) 2]) rfl (show mu_is Hsb (some 147) 2 from (ub.1.1.is rfl)) ?_
        rw [(show mu_r Hsb 147 11 = (U.2.2.2.1 147 11) from (ud_q (U := Vb) (m := m) (P := 147) (j := 11) db rfl).trans ((zzb.r 147 11 rfl).trans (zza.r 147 11 rfl)))]
        refine mw_go mu_g332 (k := 2) (f1 := (75, [(6, .inl (nI x)), (0, .inr (.inr (some 147))), (1, .inl (nI r)), (2, .inl (nI k)), (3, .inl (0 : Int32)), (4, .inl (nI y)), (5, .inl (nI (pl y)))], [.inl (mu_i Hsb (mu_p (U.2.2.2.1 147 11)) (nI x).toNatClampNeg)], Hsb)) (C := [mu_isr Hsb (U.2.2.2.1 147 11) 100, vp_in (nI x) (mu_n Hsb (mu_p (U.2.2.2.1 147 11)))]) rfl (show (mu_isr Hsb (U.2.2.2.1 147 11) 100) ∧ (vp_in (nI x) (mu_n Hsb (mu_p (U.2.2.2.1 147 11)))) from ⟨((ub.iA db rfl rfl (show Vb.2.2.2.1 147 11 = (U.2.2.2.1 147 11) from ((zzb.r 147 11 rfl).trans (zza.r 147 11 rfl))))).r, (ub.vA (i := x) db rfl rfl (show Vb.2.2.2.1 147 11 = (U.2.2.2.1 147 11) from ((zzb.r 147 11 rfl).trans (zza.r 147 11 rfl))) (show (Vb.2.2.1 147 11).1 = (U.2.2.1 147 11).1 from ((zzb.n 147 11 rfl).trans (zza.n 147 11 rfl))) (by omega) (by omega))⟩) ?_
        rw [(show (mu_i Hsb (mu_p (U.2.2.2.1 147 11)) (nI x).toNatClampNeg) = (nI (me x)) from ((congrArg (mu_i Hsb (mu_p (U.2.2.2.1 147 11))) (show (nI x).toNatClampNeg = x from nI_clamp (by omega))).trans (ub.gA db rfl rfl (show Vb.2.2.2.1 147 11 = (U.2.2.2.1 147 11) from ((zzb.r 147 11 rfl).trans (zza.r 147 11 rfl))))).trans ((congrArg (fun z => z.2 x) (show Vb.2.2.1 147 11 = (U.2.2.1 147 11) from ((zzb.a 147 11 rfl).trans (zza.a 147 11 rfl)))).trans (hme x (by omega)).1))]
        have hmx : me x < T := (hme x (by omega)).2
        refine mw_go mu_g332 (k := 3) (f1 := (81, [(7, .inl (nI (me x))), (6, .inl (nI x)), (0, .inr (.inr (some 147))), (1, .inl (nI r)), (2, .inl (nI k)), (3, .inl (0 : Int32)), (4, .inl (nI y)), (5, .inl (nI (pl y)))], [.inr (.inr (mu_r Hsb 147 7))], Hsb)) (C := [mu_is Hsb (some 147) 2]) rfl (show mu_is Hsb (some 147) 2 from (ub.1.1.is rfl)) ?_
        rw [(ub.1.1.r (p := 147) (j := 7) (q := 153) rfl)]
        refine mw_go mu_g332 (k := 1) (f1 := (83, [(7, .inl (nI (me x))), (6, .inl (nI x)), (0, .inr (.inr (some 147))), (1, .inl (nI r)), (2, .inl (nI k)), (3, .inl (0 : Int32)), (4, .inl (nI y)), (5, .inl (nI (pl y)))], [.inl (nI (me x)), .inr (.inr (some 153))], Hsb)) (C := []) rfl trivial ?_
        refine mw_cI (fun _ => rfl) trivial ((pv_has_153 (d := (d + 1)) (k := (me x)) ub db (by omega)).imp (fun _ _ z => has_alt (b := bts (Vb.2.2.2.2.1 153) (me x)) z)) (fun x9 H9 q9 => ?_)
        rcases q9 with ⟨rfl, hb9, rfl⟩ | ⟨rfl, hb9, rfl⟩
        · -- (1 : Int32)
          have khb9 : bts (U.2.2.2.2.1 153) (me x) = true := by rw [← (show (Vb.2.2.2.2.1 153) = (U.2.2.2.2.1 153) from ((zzb.l 153 rfl).trans (zza.l 153 rfl)))]; exact hb9
          refine mw_if (P := (1 : Int32) = 0) (a := 135) (b := 89) (fun _ => rfl) trivial (fun h10 => absurd h10 (by decide)) (fun h10 => ?_)
          refine mw_go mu_g332 (k := 2) (f1 := (93, [(7, .inl (nI (me x))), (6, .inl (nI x)), (0, .inr (.inr (some 147))), (1, .inl (nI r)), (2, .inl (nI k)), (3, .inl (0 : Int32)), (4, .inl (nI y)), (5, .inl (nI (pl y)))], [.inr (.inr (mu_r Hsb 147 5))], Hsb)) (C := [mu_is Hsb (some 147) 2]) rfl (show mu_is Hsb (some 147) 2 from (ub.1.1.is rfl)) ?_
          rw [(ub.1.1.r (p := 147) (j := 5) (q := 151) rfl)]
          refine mw_go mu_g332 (k := 3) (f1 := (98, [(7, .inl (nI (me x))), (6, .inl (nI x)), (0, .inr (.inr (some 147))), (1, .inl (nI r)), (2, .inl (nI k)), (3, .inl (0 : Int32)), (4, .inl (nI y)), (5, .inl (nI (pl y)))], [.inl ((nI (me x)) >>> ((6 : Int32) &&& 31)), .inr (.inr (some 151))], Hsb)) (C := []) rfl trivial ?_
          rw [(show ((nI (me x)) >>> ((6 : Int32) &&& 31)) = (nI ((me x) / 64)) from (nI_shr6 (a := me x) (by omega)))]
          refine mw_go mu_g332 (k := 2) (f1 := (100, [(7, .inl (nI (me x))), (6, .inl (nI x)), (0, .inr (.inr (some 147))), (1, .inl (nI r)), (2, .inl (nI k)), (3, .inl (0 : Int32)), (4, .inl (nI y)), (5, .inl (nI (pl y)))], [.inr (.inl (mu_l Hsb 151 (nI ((me x) / 64)).toNatClampNeg)), .inl (nI ((me x) / 64)), .inr (.inr (some 151))], Hsb)) (C := [mu_isr Hsb (some 151) 102, vp_in (nI ((me x) / 64)) (mu_n Hsb 151)]) rfl (show (mu_isr Hsb (some 151) 102) ∧ (vp_in (nI ((me x) / 64)) (mu_n Hsb 151)) from ⟨((ub.1.1.a (p := 151) (x := (102, 256)) rfl).1).r, (by rw [show mu_n Hsb 151 = 256 from (ub.1.1.a (p := 151) (x := (102, 256)) rfl).2]; exact vp_in_nI (n := (me x) / 64) (by omega) (by decide))⟩) ?_
          rw [(show (mu_l Hsb 151 (nI ((me x) / 64)).toNatClampNeg) = (Vb.2.2.2.2.1 151) ((me x) / 64) from (congrArg (mu_l Hsb 151) (show (nI ((me x) / 64)).toNatClampNeg = (me x) / 64 from nI_clamp (by omega))).trans ((ud_l (m := m) (p := 151) (i := ((me x) / 64)) db rfl).trans (congrFun (show Vb.2.2.2.2.1 151 = (Vb.2.2.2.2.1 151) from rfl) ((me x) / 64))))]
          refine mw_go mu_g332 (k := 7) (f1 := (110, [(7, .inl (nI (me x))), (6, .inl (nI x)), (0, .inr (.inr (some 147))), (1, .inl (nI r)), (2, .inl (nI k)), (3, .inl (0 : Int32)), (4, .inl (nI y)), (5, .inl (nI (pl y)))], [], (mu_sl Hsb 151 (nI ((me x) / 64)).toNatClampNeg (((Vb.2.2.2.2.1 151) ((me x) / 64)) &&& (((1 : Int64) <<< ((nI (me x)).toInt64 &&& 63)) ^^^ (-1 : Int64)))))) (C := [mu_is Hsb (some 151) 102, vp_in (nI ((me x) / 64)) (mu_n Hsb 151)]) rfl (show (mu_is Hsb (some 151) 102) ∧ (vp_in (nI ((me x) / 64)) (mu_n Hsb 151)) from ⟨((ub.1.1.a (p := 151) (x := (102, 256)) rfl).1), (by rw [show mu_n Hsb 151 = 256 from (ub.1.1.a (p := 151) (x := (102, 256)) rfl).2]; exact vp_in_nI (n := (me x) / 64) (by omega) (by decide))⟩) ?_
          rw [(show (nI ((me x) / 64)).toNatClampNeg = (me x) / 64 from nI_clamp (by omega))]
          obtain ⟨u11, r11, d11⟩ : um m (mu_sl Hsb 151 ((me x) / 64) (((Vb.2.2.2.2.1 151) ((me x) / 64)) &&& (((1 : Int64) <<< ((nI (me x)).toInt64 &&& 63)) ^^^ (-1 : Int64)))) ∧ ur m C Hsb (mu_sl Hsb 151 ((me x) / 64) (((Vb.2.2.2.2.1 151) ((me x) / 64)) &&& (((1 : Int64) <<< ((nI (me x)).toInt64 &&& 63)) ^^^ (-1 : Int64)))) ∧ ud m (mu_sl Hsb 151 ((me x) / 64) (((Vb.2.2.2.2.1 151) ((me x) / 64)) &&& (((1 : Int64) <<< ((nI (me x)).toInt64 &&& 63)) ^^^ (-1 : Int64)))) = (upL Vb 151 ((me x) / 64) (((Vb.2.2.2.2.1 151) ((me x) / 64)) &&& (((1 : Int64) <<< ((nI (me x)).toInt64 &&& 63)) ^^^ (-1 : Int64)))) := ub.sL (C := C) db rfl
          generalize (mu_sl Hsb 151 ((me x) / 64) (((Vb.2.2.2.2.1 151) ((me x) / 64)) &&& (((1 : Int64) <<< ((nI (me x)).toInt64 &&& 63)) ^^^ (-1 : Int64)))) = Q11 at u11 r11 d11 ⊢
          have qf11 : uq F332 U (upL Vb 151 ((me x) / 64) (((Vb.2.2.2.2.1 151) ((me x) / 64)) &&& (((1 : Int64) <<< ((nI (me x)).toInt64 &&& 63)) ^^^ (-1 : Int64)))) := qfb.L rfl
          have ht11 : ur m C H Q11 := htb.trans r11
          refine mw_go mu_g332 (k := 2) (f1 := (114, [(7, .inl (nI (me x))), (6, .inl (nI x)), (0, .inr (.inr (some 147))), (1, .inl (nI r)), (2, .inl (nI k)), (3, .inl (0 : Int32)), (4, .inl (nI y)), (5, .inl (nI (pl y)))], [.inr (.inr (mu_r Q11 147 8))], Q11)) (C := [mu_is Q11 (some 147) 2]) rfl (show mu_is Q11 (some 147) 2 from (u11.1.1.is rfl)) ?_
          rw [(show mu_r Q11 147 8 = (some gq) from (ud_q (U := (upL Vb 151 ((me x) / 64) (((Vb.2.2.2.2.1 151) ((me x) / 64)) &&& (((1 : Int64) <<< ((nI (me x)).toInt64 &&& 63)) ^^^ (-1 : Int64))))) (m := m) (P := 147) (j := 8) d11 rfl).trans ((zzb.r 147 8 rfl).trans ((zza.r 147 8 rfl).trans hgo)))]
          refine mw_go mu_g332 (k := 3) (f1 := (119, [(7, .inl (nI (me x))), (6, .inl (nI x)), (0, .inr (.inr (some 147))), (1, .inl (nI r)), (2, .inl (nI k)), (3, .inl (0 : Int32)), (4, .inl (nI y)), (5, .inl (nI (pl y)))], [.inl ((nI (me x)) >>> ((6 : Int32) &&& 31)), .inr (.inr (some gq))], Q11)) (C := []) rfl trivial ?_
          rw [(show ((nI (me x)) >>> ((6 : Int32) &&& 31)) = (nI ((me x) / 64)) from (nI_shr6 (a := me x) (by omega)))]
          refine mw_go mu_g332 (k := 1) (f1 := (120, [(7, .inl (nI (me x))), (6, .inl (nI x)), (0, .inr (.inr (some 147))), (1, .inl (nI r)), (2, .inl (nI k)), (3, .inl (0 : Int32)), (4, .inl (nI y)), (5, .inl (nI (pl y)))], [.inl (nI ((me x) / 64)), .inr (.inr (some gq)), .inl (nI ((me x) / 64)), .inr (.inr (some gq))], Q11)) (C := []) rfl trivial ?_
          obtain ⟨kb12, kc12, kd12⟩ := LSN.read u11 d11 (hgb.keep (fun _ _ _ => rfl) rfl)
          refine mw_go mu_g332 (k := 1) (f1 := (121, [(7, .inl (nI (me x))), (6, .inl (nI x)), (0, .inr (.inr (some 147))), (1, .inl (nI r)), (2, .inl (nI k)), (3, .inl (0 : Int32)), (4, .inl (nI y)), (5, .inl (nI (pl y)))], [.inr (.inl (mu_l Q11 gq (nI ((me x) / 64)).toNatClampNeg)), .inl (nI ((me x) / 64)), .inr (.inr (some gq))], Q11)) (C := [mu_isr Q11 (some gq) 102, vp_in (nI ((me x) / 64)) (mu_n Q11 gq)]) rfl (show (mu_isr Q11 (some gq) 102) ∧ (vp_in (nI ((me x) / 64)) (mu_n Q11 gq)) from ⟨kb12.r, (by rw [kc12]; exact vp_in_nI (n := (me x) / 64) (by omega) (by decide))⟩) ?_
          rw [(show (mu_l Q11 gq (nI ((me x) / 64)).toNatClampNeg) = ((lgf (upL Vb 151 ((me x) / 64) (((Vb.2.2.2.2.1 151) ((me x) / 64)) &&& (((1 : Int64) <<< ((nI (me x)).toInt64 &&& 63)) ^^^ (-1 : Int64)))) ga gi) ((me x) / 64)) from (congrArg (mu_l Q11 gq) (show (nI ((me x) / 64)).toNatClampNeg = (me x) / 64 from nI_clamp (by omega))).trans (kd12 ((me x) / 64)))]
          refine mw_go mu_g332 (k := 1) (f1 := (122, [(7, .inl (nI (me x))), (6, .inl (nI x)), (0, .inr (.inr (some 147))), (1, .inl (nI r)), (2, .inl (nI k)), (3, .inl (0 : Int32)), (4, .inl (nI y)), (5, .inl (nI (pl y)))], [.inl (0 : Int32), .inr (.inl ((lgf (upL Vb 151 ((me x) / 64) (((Vb.2.2.2.2.1 151) ((me x) / 64)) &&& (((1 : Int64) <<< ((nI (me x)).toInt64 &&& 63)) ^^^ (-1 : Int64)))) ga gi) ((me x) / 64))), .inl (nI ((me x) / 64)), .inr (.inr (some gq))], Q11)) (C := []) rfl trivial ?_
          refine mw_if (P := (0 : Int32) = 0) (a := 132) (b := 125) (fun _ => rfl) trivial (fun h13 => ?_) (fun h13 => absurd (by decide) h13)
          refine mw_go mu_g332 (k := 2) (f1 := (134, [(7, .inl (nI (me x))), (6, .inl (nI x)), (0, .inr (.inr (some 147))), (1, .inl (nI r)), (2, .inl (nI k)), (3, .inl (0 : Int32)), (4, .inl (nI y)), (5, .inl (nI (pl y)))], [.inr (.inl (((lgf (upL Vb 151 ((me x) / 64) (((Vb.2.2.2.2.1 151) ((me x) / 64)) &&& (((1 : Int64) <<< ((nI (me x)).toInt64 &&& 63)) ^^^ (-1 : Int64)))) ga gi) ((me x) / 64)) ||| (0 : Int64))), .inl (nI ((me x) / 64)), .inr (.inr (some gq))], Q11)) (C := []) rfl trivial ?_
          obtain ⟨kb14, kc14, -⟩ := LSN.read u11 d11 (hgb.keep (fun _ _ _ => rfl) rfl)
          refine mw_go mu_g332 (k := 1) (f1 := (135, [(7, .inl (nI (me x))), (6, .inl (nI x)), (0, .inr (.inr (some 147))), (1, .inl (nI r)), (2, .inl (nI k)), (3, .inl (0 : Int32)), (4, .inl (nI y)), (5, .inl (nI (pl y)))], [], (mu_sl Q11 gq (nI ((me x) / 64)).toNatClampNeg (((lgf (upL Vb 151 ((me x) / 64) (((Vb.2.2.2.2.1 151) ((me x) / 64)) &&& (((1 : Int64) <<< ((nI (me x)).toInt64 &&& 63)) ^^^ (-1 : Int64)))) ga gi) ((me x) / 64)) ||| (0 : Int64))))) (C := [mu_is Q11 (some gq) 102, vp_in (nI ((me x) / 64)) (mu_n Q11 gq)]) rfl (show (mu_is Q11 (some gq) 102) ∧ (vp_in (nI ((me x) / 64)) (mu_n Q11 gq)) from ⟨kb14, (by rw [kc14]; exact vp_in_nI (n := (me x) / 64) (by omega) (by decide))⟩) ?_
          rw [(show (nI ((me x) / 64)).toNatClampNeg = (me x) / 64 from nI_clamp (by omega))]
          obtain ⟨u14, r14, z14, gk14, gl14, gf14⟩ := LSN.write (C := C) (k := (me x) / 64) (v := (((lgf (upL Vb 151 ((me x) / 64) (((Vb.2.2.2.2.1 151) ((me x) / 64)) &&& (((1 : Int64) <<< ((nI (me x)).toInt64 &&& 63)) ^^^ (-1 : Int64)))) ga gi) ((me x) / 64)) ||| (0 : Int64))) u11 d11 (hgb.keep (fun _ _ _ => rfl) rfl)
          generalize (mu_sl Q11 gq ((me x) / 64) (((lgf (upL Vb 151 ((me x) / 64) (((Vb.2.2.2.2.1 151) ((me x) / 64)) &&& (((1 : Int64) <<< ((nI (me x)).toInt64 &&& 63)) ^^^ (-1 : Int64)))) ga gi) ((me x) / 64)) ||| (0 : Int64))) = Q14 at u14 r14 z14 gk14 gl14 gf14 ⊢
          obtain ⟨V14, d14⟩ : ∃ V, ud m Q14 = V := ⟨_, rfl⟩
          rw [d14] at z14 gk14 gl14 gf14
          have ht14 : ur m C H Q14 := ht11.trans r14
          have qf14 : uq F332 U V14 := qf11.tr z14 rfl
          refine mw_go mu_g332 (k := 1) (f1 := (138, [(6, .inl ((nI x) + 1)), (7, .inl (nI (me x))), (0, .inr (.inr (some 147))), (1, .inl (nI r)), (2, .inl (nI k)), (3, .inl (0 : Int32)), (4, .inl (nI y)), (5, .inl (nI (pl y)))], [], Q14)) (C := []) rfl trivial ?_
          rw [(show ((nI x) + 1) = (nI (x + 1)) from (nI_add x 1))]
          refine mw_go mu_g332 (k := 1) (f1 := (54, [(6, .inl (nI (x + 1))), (7, .inl (nI (me x))), (0, .inr (.inr (some 147))), (1, .inl (nI r)), (2, .inl (nI k)), (3, .inl (0 : Int32)), (4, .inl (nI y)), (5, .inl (nI (pl y)))], [], Q14)) (C := []) rfl trivial ?_
          exact mw_sub (by simp) (ihb (x + 1, Q14) ⟨u14, ht14, (show uq F332b Va (ud m Q14) from by rw [d14]; exact ((zzb.L rfl).tr z14 rfl)), (show mb (pl y) ≤ (x + 1) ∧ (x + 1) ≤ mb (pl y + 1) from (by omega)), (show LSN (ud m Q14) ga gi gq 256 from by rw [d14]; exact gl14), (show GKP ga gi U (ud m Q14) from by rw [d14]; exact (hkb.trans ((GKP.of_eq (fun p hp => upL_ne (by omega)) rfl).trans gk14))), (show ∀ t, bts ((ud m Q14).2.2.2.2.1 151) t = true ↔ (bts (U.2.2.2.2.1 151) t = true ∧ ¬ MSO U pl mb me k y t) ∧ ¬ ∃ i, mb (pl y) ≤ i ∧ i < (x + 1) ∧ me i = t ∧ bts (U.2.2.2.2.1 153) t = true from by rw [d14]; exact (fun t => by rw [show V14.2.2.2.2.1 151 = (upL Vb 151 ((me x) / 64) (((Vb.2.2.2.2.1 151) ((me x) / 64)) &&& (((1 : Int64) <<< ((nI (me x)).toInt64 &&& 63)) ^^^ (-1 : Int64)))).2.2.2.2.1 151 from z14.l 151 rfl, upL_at, bts_setoff (by omega), hpb t]; exact mem_off (A := fun t => bts (U.2.2.2.2.1 153) t = true) (by omega) khb9)), (show ∀ t, bts (lgf (ud m Q14) ga gi) t = true ↔ (bts (lgf U ga gi) t = true ∨ (lv % 2 = 1 ∧ MSO U pl mb me k y t)) ∨ (lv % 2 = 1 ∧ ∃ i, mb (pl y) ≤ i ∧ i < (x + 1) ∧ me i = t ∧ bts (U.2.2.2.2.1 153) t = true) from by rw [d14]; exact (fun t => by rw [show lgf V14 ga gi = _ from funext gf14, (show lgf (upL Vb 151 ((me x) / 64) (((Vb.2.2.2.2.1 151) ((me x) / 64)) &&& (((1 : Int64) <<< ((nI (me x)).toInt64 &&& 63)) ^^^ (-1 : Int64)))) ga gi = lgf Vb ga gi from lsf_of_eq (fun p hp => upL_ne (by omega)) rfl hgb)]; rw [bts_or0, hvb t]; exact ⟨fun z => z.imp id (fun w => absurd w.1 hfin), fun z => z.imp id (fun w => absurd w.1 hfin)⟩))⟩ (by show mb (pl y + 1) - (x + 1) < mb (pl y + 1) - x; omega))
        · -- (0 : Int32)
          have khb9 : bts (U.2.2.2.2.1 153) (me x) = false := by rw [← (show (Vb.2.2.2.2.1 153) = (U.2.2.2.2.1 153) from ((zzb.l 153 rfl).trans (zza.l 153 rfl)))]; exact hb9
          refine mw_if (P := (0 : Int32) = 0) (a := 135) (b := 89) (fun _ => rfl) trivial (fun h15 => ?_) (fun h15 => absurd (by decide) h15)
          refine mw_go mu_g332 (k := 1) (f1 := (138, [(6, .inl ((nI x) + 1)), (7, .inl (nI (me x))), (0, .inr (.inr (some 147))), (1, .inl (nI r)), (2, .inl (nI k)), (3, .inl (0 : Int32)), (4, .inl (nI y)), (5, .inl (nI (pl y)))], [], Hsb)) (C := []) rfl trivial ?_
          rw [(show ((nI x) + 1) = (nI (x + 1)) from (nI_add x 1))]
          refine mw_go mu_g332 (k := 1) (f1 := (54, [(6, .inl (nI (x + 1))), (7, .inl (nI (me x))), (0, .inr (.inr (some 147))), (1, .inl (nI r)), (2, .inl (nI k)), (3, .inl (0 : Int32)), (4, .inl (nI y)), (5, .inl (nI (pl y)))], [], Hsb)) (C := []) rfl trivial ?_
          exact mw_sub (by simp) (ihb (x + 1, Hsb) ⟨ub, htb, (show uq F332b Va (ud m Hsb) from by rw [db]; exact zzb), (show mb (pl y) ≤ (x + 1) ∧ (x + 1) ≤ mb (pl y + 1) from (by omega)), (show LSN (ud m Hsb) ga gi gq 256 from by rw [db]; exact hgb), (show GKP ga gi U (ud m Hsb) from by rw [db]; exact hkb), (show ∀ t, bts ((ud m Hsb).2.2.2.2.1 151) t = true ↔ (bts (U.2.2.2.2.1 151) t = true ∧ ¬ MSO U pl mb me k y t) ∧ ¬ ∃ i, mb (pl y) ≤ i ∧ i < (x + 1) ∧ me i = t ∧ bts (U.2.2.2.2.1 153) t = true from by rw [db]; exact (fun t => by rw [hpb t, (mem_no (A := fun t => bts (U.2.2.2.2.1 153) t = true) (me := me) (a := mb (pl y)) (x := x) (t := t) (fun z => by rw [khb9] at z; cases z))])), (show ∀ t, bts (lgf (ud m Hsb) ga gi) t = true ↔ (bts (lgf U ga gi) t = true ∨ (lv % 2 = 1 ∧ MSO U pl mb me k y t)) ∨ (lv % 2 = 1 ∧ ∃ i, mb (pl y) ≤ i ∧ i < (x + 1) ∧ me i = t ∧ bts (U.2.2.2.2.1 153) t = true) from by rw [db]; exact (fun t => by rw [hvb t, (mem_no (A := fun t => bts (U.2.2.2.2.1 153) t = true) (me := me) (a := mb (pl y)) (x := x) (t := t) (fun z => by rw [khb9] at z; cases z))]))⟩ (by show mb (pl y + 1) - (x + 1) < mb (pl y + 1) - x; omega))
      · -- 141: not (nI x) < (nI (mb ((pl y) + 1)))
        have nh8 : ¬ x < (mb ((pl y) + 1)) := fun z => h8 (show nI x < nI (mb ((pl y) + 1)) from (nI_ltI (by omega) (by omega)).mpr z)
        refine mw_go mu_g332 (k := 1) (f1 := (144, [(4, .inl ((nI y) + 1)), (6, .inl (nI x)), (0, .inr (.inr (some 147))), (1, .inl (nI r)), (2, .inl (nI k)), (3, .inl (0 : Int32)), (5, .inl (nI (pl y)))], [], Hsb)) (C := []) rfl trivial ?_
        rw [(show ((nI y) + 1) = (nI (y + 1)) from (nI_add y 1))]
        refine mw_go mu_g332 (k := 1) (f1 := (26, [(4, .inl (nI (y + 1))), (6, .inl (nI x)), (0, .inr (.inr (some 147))), (1, .inl (nI r)), (2, .inl (nI k)), (3, .inl (0 : Int32)), (5, .inl (nI (pl y)))], [], Hsb)) (C := []) rfl trivial ?_
        exact mw_sub (by simp) (iha (y + 1, Hsb) ⟨ub, htb, (show uq F332a U (ud m Hsb) from by rw [db]; exact (zza.tr zzb rfl)), (show k ≤ (y + 1) ∧ (y + 1) ≤ ls from (by omega)), (show LSN (ud m Hsb) ga gi gq 256 from by rw [db]; exact hgb), (show GKP ga gi U (ud m Hsb) from by rw [db]; exact hkb), (show ∀ t, bts ((ud m Hsb).2.2.2.2.1 151) t = true ↔ bts (U.2.2.2.2.1 151) t = true ∧ ¬ MSO U pl mb me k (y + 1) t from by rw [db]; exact (fun t => by rw [hpb t, mso_step hy.1, show x = mb (pl y + 1) by omega, not_or, and_assoc])), (show ∀ t, bts (lgf (ud m Hsb) ga gi) t = true ↔ bts (lgf U ga gi) t = true ∨ (lv % 2 = 1 ∧ MSO U pl mb me k (y + 1) t) from by rw [db]; exact (fun t => by rw [hvb t, mso_step hy.1, show x = mb (pl y + 1) by omega, or_assoc, ← and_or_left]))⟩ (by show ls - (y + 1) < ls - y; omega))
    · -- 147: not (nI y) < (nI ls)
      have nh4 : ¬ y < ls := fun z => h4 (show nI y < nI ls from (nI_ltI (by omega) (by omega)).mpr z)
      refine mw_go mu_g332 (k := 3) (f1 := (152, [(4, .inl (nI y)), (0, .inr (.inr (some 147))), (1, .inl (nI r)), (2, .inl (nI k)), (3, .inl (0 : Int32))], [], (mu_si Hsa 147 21 (nI k)))) (C := [mu_is Hsa (some 147) 2]) rfl (show mu_is Hsa (some 147) 2 from (ua.1.1.is rfl)) ?_
      obtain ⟨u16, r16, d16⟩ : um m (mu_si Hsa 147 21 (nI k)) ∧ ur m C Hsa (mu_si Hsa 147 21 (nI k)) ∧ ud m (mu_si Hsa 147 21 (nI k)) = (upI Va 147 21 (nI k)) := ua.sI (C := C) da rfl
      generalize (mu_si Hsa 147 21 (nI k)) = Q16 at u16 r16 d16 ⊢
      have qf16 : uq F332 U (upI Va 147 21 (nI k)) := qfa.I rfl
      have ht16 : ur m C H Q16 := hta.trans r16
      have hyl : y = ls := by omega
      rw [hyl] at hpa hva
      refine mw_of (fun _ => mu_ret rfl trivial ⟨Q16, rfl, u16, ht16, (by rw [d16]; exact qf16), ?_⟩)
      rw [d16]
      have hmT : ∀ i, i < T → me i < T := fun i hi => (hme i hi).2
      have hbT : ∀ i, i < ls → mb (pl i + 1) ≤ T := fun i hi => (hmp1 _ (hpl i hi).2).2
      have hpR : ∀ i, i < ls → pl i < R := fun i hi => (hpl i hi).2
      have hls2 : lgf (upI Va 147 21 (nI k)) ga gi = lgf Va ga gi := lsf_of_eq (fun p hp => rfl) rfl hga
      refine ⟨rfl, hka.trans (GKP.of_eq (fun p hp => rfl) rfl), hga.keep (fun _ _ _ => rfl) rfl, ⟨fun t ht => (hpa t).trans (and_congr Iff.rfl (not_congr (mso_scc ⟨hmp1, hmp2, hmp3, hmp4⟩ hpR ht))), fun t z => ((hpa t).mp z).1⟩, fun t ht => ?_, fun t z => ?_⟩
      · rw [hls2, hva t, mso_scc ⟨hmp1, hmp2, hmp3, hmp4⟩ hpR ht]
      · rw [hls2, hva t] at z; exact z.imp id (fun w => mso_T hmT hbT w.2)
  · -- 17: not ((nI lv) &&& (1 : Int32)) = 0
    have hfin : lv % 2 = 1 := Classical.byContradiction (fun z => h3 ((and41 lv hlv4).mpr z))
    refine mw_go mu_g332 (k := 5) (f1 := (26, [(4, .inl (nI k)), (3, .inl (1 : Int32)), (2, .inl (nI k)), (0, .inr (.inr (some 147))), (1, .inl (nI r))], [], H)) (C := []) rfl trivial ?_
    refine mw_sub (L' := [(4, .inl (nI k)), (0, .inr (.inr (some 147))), (1, .inl (nI r)), (2, .inl (nI k)), (3, .inl (1 : Int32))]) (by simp) ?_
    refine mw_down (α := Nat × mu_H) (fun zs => (26, [(4, .inl (nI zs.1)), (0, .inr (.inr (some 147))), (1, .inl (nI r)), (2, .inl (nI k)), (3, .inl (1 : Int32))], [], zs.2)) (fun zs => ls - zs.1) (fun zs => um m zs.2 ∧ ur m C H zs.2 ∧ (uq F332a U (ud m zs.2)) ∧ (k ≤ zs.1 ∧ zs.1 ≤ ls) ∧ (LSN (ud m zs.2) ga gi gq 256) ∧ (GKP ga gi U (ud m zs.2)) ∧ (∀ t, bts ((ud m zs.2).2.2.2.2.1 151) t = true ↔ bts (U.2.2.2.2.1 151) t = true ∧ ¬ MSO U pl mb me k zs.1 t) ∧ (∀ t, bts (lgf (ud m zs.2) ga gi) t = true ↔ bts (lgf U ga gi) t = true ∨ (lv % 2 = 1 ∧ MSO U pl mb me k zs.1 t))) (fun zs hza iha => ?_) (k, H) ⟨h, (ur.refl m C H), (show uq F332a U (ud m H) from by rw [e]; exact uq.refl _ _), (show k ≤ k ∧ k ≤ ls from ⟨Nat.le_refl _, by omega⟩), (show LSN (ud m H) ga gi gq 256 from by rw [e]; exact hgl), (show GKP ga gi U (ud m H) from by rw [e]; exact (GKP.refl _ _ _)), (show ∀ t, bts ((ud m H).2.2.2.2.1 151) t = true ↔ bts (U.2.2.2.2.1 151) t = true ∧ ¬ MSO U pl mb me k k t from by rw [e]; exact (fun t => ⟨fun z => ⟨z, mso_none⟩, fun z => z.1⟩)), (show ∀ t, bts (lgf (ud m H) ga gi) t = true ↔ bts (lgf U ga gi) t = true ∨ (lv % 2 = 1 ∧ MSO U pl mb me k k t) from by rw [e]; exact (fun t => ⟨fun z => Or.inl z, fun z => z.resolve_right (fun w => mso_none w.2)⟩))⟩
    obtain ⟨y, Hsa⟩ := zs
    obtain ⟨ua, hta, da, hy, hga, hka, hpa, hva⟩ := hza
    have ua : um m Hsa := ua
    have hta : ur m C H Hsa := hta
    have zza : uq F332a U (ud m Hsa) := da
    have hy : k ≤ y ∧ y ≤ ls := hy
    have hga : LSN (ud m Hsa) ga gi gq 256 := hga
    have hka : GKP ga gi U (ud m Hsa) := hka
    have hpa : ∀ t, bts ((ud m Hsa).2.2.2.2.1 151) t = true ↔ bts (U.2.2.2.2.1 151) t = true ∧ ¬ MSO U pl mb me k y t := hpa
    have hva : ∀ t, bts (lgf (ud m Hsa) ga gi) t = true ↔ bts (lgf U ga gi) t = true ∨ (lv % 2 = 1 ∧ MSO U pl mb me k y t) := hva
    obtain ⟨Va, da⟩ : ∃ V, ud m Hsa = V := ⟨_, rfl⟩
    rw [da] at zza hga hka hpa hva
    have qfa : uq F332 U Va := (uq.refl F332 U).tr zza rfl
    show mu_W _ _ (26, [(4, .inl (nI y)), (0, .inr (.inr (some 147))), (1, .inl (nI r)), (2, .inl (nI k)), (3, .inl (1 : Int32))], [], Hsa) _
    refine mw_go mu_g332 (k := 3) (f1 := (32, [(4, .inl (nI y)), (0, .inr (.inr (some 147))), (1, .inl (nI r)), (2, .inl (nI k)), (3, .inl (1 : Int32))], [.inl (mu_i Hsa 147 21), .inl (nI y)], Hsa)) (C := [mu_is Hsa (some 147) 2]) rfl (show mu_is Hsa (some 147) 2 from (ua.1.1.is rfl)) ?_
    rw [(show mu_i Hsa 147 21 = (nI ls) from (ud_i (U := Va) (m := m) (P := 147) (j := 21) da rfl).trans ((zza.i 147 21 rfl).trans hls))]
    refine mw_if (P := (nI y) < (nI ls)) (a := 35) (b := 147) (fun _ => rfl) trivial (fun h17 => ?_) (fun h17 => ?_)
    · -- 35: (nI y) < (nI ls)
      have nh17 : y < ls := (nI_ltI (by omega) (by omega)).mp (show nI y < nI ls from h17)
      refine mw_go mu_g332 (k := 3) (f1 := (40, [(4, .inl (nI y)), (0, .inr (.inr (some 147))), (1, .inl (nI r)), (2, .inl (nI k)), (3, .inl (1 : Int32))], [.inl (6 : Int32), .inl (nI y), .inr (.inr (some 147))], Hsa)) (C := []) rfl trivial ?_
      refine mw_cIe (fun _ => rfl) (show mu_is Hsa (some 147) 2 from (ua.1.1.is rfl)) (gr_node (d := (d + 1)) (r := y) (c := 6) ua da (by (rw [(show (Va.2.2.1 147 10).1 = (U.2.2.1 147 10).1 from (zza.n 147 10 rfl))]; omega)) (by (rw [(show (Va.2.2.1 147 10).1 = (U.2.2.1 147 10).1 from (zza.n 147 10 rfl))]; omega))) ?_
      rw [show (Va.2.2.1 147 10).2 (y * 7 + 6) = nI (pl y) from (by rw [(show (Va.2.2.1 147 10) = (U.2.2.1 147 10) from (zza.a 147 10 rfl))]; exact (hpl y (by omega)).1)]
      have hply : pl y < R := (hpl y (by omega)).2
      obtain ⟨hmy1, hmy2⟩ := hmp1 (pl y) hply
      refine mw_go mu_g332 (k := 4) (f1 := (49, [(5, .inl (nI (pl y))), (4, .inl (nI y)), (0, .inr (.inr (some 147))), (1, .inl (nI r)), (2, .inl (nI k)), (3, .inl (1 : Int32))], [.inl (0 : Int32), .inl (nI (pl y)), .inr (.inr (some 147))], Hsa)) (C := []) rfl trivial ?_
      refine mw_cIe (fun _ => rfl) (show mu_is Hsa (some 147) 2 from (ua.1.1.is rfl)) (gr_node (d := (d + 1)) (r := pl y) (c := 0) ua da (by (rw [(show (Va.2.2.1 147 10).1 = (U.2.2.1 147 10).1 from (zza.n 147 10 rfl))]; omega)) (by (rw [(show (Va.2.2.1 147 10).1 = (U.2.2.1 147 10).1 from (zza.n 147 10 rfl))]; omega))) ?_
      rw [show (Va.2.2.1 147 10).2 ((pl y) * 7 + 0) = nI (mb (pl y)) from (by rw [(show (Va.2.2.1 147 10) = (U.2.2.1 147 10) from (zza.a 147 10 rfl))]; exact hmb (pl y) (by have := (hpl y (by omega)).2; omega))]
      refine mw_go mu_g332 (k := 1) (f1 := (54, [(6, .inl (nI (mb (pl y)))), (5, .inl (nI (pl y))), (4, .inl (nI y)), (0, .inr (.inr (some 147))), (1, .inl (nI r)), (2, .inl (nI k)), (3, .inl (1 : Int32))], [], Hsa)) (C := []) rfl trivial ?_
      refine mw_sub (L' := [(6, .inl (nI (mb (pl y)))), (0, .inr (.inr (some 147))), (1, .inl (nI r)), (2, .inl (nI k)), (3, .inl (1 : Int32)), (4, .inl (nI y)), (5, .inl (nI (pl y)))]) (by simp) ?_
      refine mw_down (α := Nat × mu_H) (fun zs => (54, [(6, .inl (nI zs.1)), (0, .inr (.inr (some 147))), (1, .inl (nI r)), (2, .inl (nI k)), (3, .inl (1 : Int32)), (4, .inl (nI y)), (5, .inl (nI (pl y)))], [], zs.2)) (fun zs => mb (pl y + 1) - zs.1) (fun zs => um m zs.2 ∧ ur m C H zs.2 ∧ (uq F332b Va (ud m zs.2)) ∧ (mb (pl y) ≤ zs.1 ∧ zs.1 ≤ mb (pl y + 1)) ∧ (LSN (ud m zs.2) ga gi gq 256) ∧ (GKP ga gi U (ud m zs.2)) ∧ (∀ t, bts ((ud m zs.2).2.2.2.2.1 151) t = true ↔ (bts (U.2.2.2.2.1 151) t = true ∧ ¬ MSO U pl mb me k y t) ∧ ¬ ∃ i, mb (pl y) ≤ i ∧ i < zs.1 ∧ me i = t ∧ bts (U.2.2.2.2.1 153) t = true) ∧ (∀ t, bts (lgf (ud m zs.2) ga gi) t = true ↔ (bts (lgf U ga gi) t = true ∨ (lv % 2 = 1 ∧ MSO U pl mb me k y t)) ∨ (lv % 2 = 1 ∧ ∃ i, mb (pl y) ≤ i ∧ i < zs.1 ∧ me i = t ∧ bts (U.2.2.2.2.1 153) t = true))) (fun zs hzb ihb => ?_) (mb (pl y), Hsa) ⟨ua, hta, (show uq F332b Va (ud m Hsa) from by rw [da]; exact uq.refl _ _), (show mb (pl y) ≤ (mb (pl y)) ∧ (mb (pl y)) ≤ mb (pl y + 1) from ⟨Nat.le_refl _, (hmp1 (pl y) (hpl y (by omega)).2).1⟩), (show LSN (ud m Hsa) ga gi gq 256 from by rw [da]; exact hga), (show GKP ga gi U (ud m Hsa) from by rw [da]; exact hka), (show ∀ t, bts ((ud m Hsa).2.2.2.2.1 151) t = true ↔ (bts (U.2.2.2.2.1 151) t = true ∧ ¬ MSO U pl mb me k y t) ∧ ¬ ∃ i, mb (pl y) ≤ i ∧ i < (mb (pl y)) ∧ me i = t ∧ bts (U.2.2.2.2.1 153) t = true from by rw [da]; exact (fun t => by rw [hpa t]; exact ⟨fun z => ⟨z, fun ⟨i, w1, w2, _⟩ => absurd w2 (by omega)⟩, fun z => z.1⟩)), (show ∀ t, bts (lgf (ud m Hsa) ga gi) t = true ↔ (bts (lgf U ga gi) t = true ∨ (lv % 2 = 1 ∧ MSO U pl mb me k y t)) ∨ (lv % 2 = 1 ∧ ∃ i, mb (pl y) ≤ i ∧ i < (mb (pl y)) ∧ me i = t ∧ bts (U.2.2.2.2.1 153) t = true) from by rw [da]; exact (fun t => by rw [hva t]; exact ⟨fun z => Or.inl z, fun z => z.resolve_right (fun ⟨_, i, w1, w2, _⟩ => absurd w2 (by omega))⟩))⟩
      obtain ⟨x, Hsb⟩ := zs
      obtain ⟨ub, htb, db, hxx, hgb, hkb, hpb, hvb⟩ := hzb
      have ub : um m Hsb := ub
      have htb : ur m C H Hsb := htb
      have zzb : uq F332b Va (ud m Hsb) := db
      have hxx : mb (pl y) ≤ x ∧ x ≤ mb (pl y + 1) := hxx
      have hgb : LSN (ud m Hsb) ga gi gq 256 := hgb
      have hkb : GKP ga gi U (ud m Hsb) := hkb
      have hpb : ∀ t, bts ((ud m Hsb).2.2.2.2.1 151) t = true ↔ (bts (U.2.2.2.2.1 151) t = true ∧ ¬ MSO U pl mb me k y t) ∧ ¬ ∃ i, mb (pl y) ≤ i ∧ i < x ∧ me i = t ∧ bts (U.2.2.2.2.1 153) t = true := hpb
      have hvb : ∀ t, bts (lgf (ud m Hsb) ga gi) t = true ↔ (bts (lgf U ga gi) t = true ∨ (lv % 2 = 1 ∧ MSO U pl mb me k y t)) ∨ (lv % 2 = 1 ∧ ∃ i, mb (pl y) ≤ i ∧ i < x ∧ me i = t ∧ bts (U.2.2.2.2.1 153) t = true) := hvb
      obtain ⟨Vb, db⟩ : ∃ V, ud m Hsb = V := ⟨_, rfl⟩
      rw [db] at zzb hgb hkb hpb hvb
      have qfb : uq F332 U Vb := qfa.tr zzb rfl
      show mu_W _ _ (54, [(6, .inl (nI x)), (0, .inr (.inr (some 147))), (1, .inl (nI r)), (2, .inl (nI k)), (3, .inl (1 : Int32)), (4, .inl (nI y)), (5, .inl (nI (pl y)))], [], Hsb) _
      refine mw_go mu_g332 (k := 5) (f1 := (61, [(6, .inl (nI x)), (0, .inr (.inr (some 147))), (1, .inl (nI r)), (2, .inl (nI k)), (3, .inl (1 : Int32)), (4, .inl (nI y)), (5, .inl (nI (pl y)))], [.inl ((nI (pl y)) + (1 : Int32)), .inr (.inr (some 147)), .inl (nI x)], Hsb)) (C := []) rfl trivial ?_
      rw [(show ((nI (pl y)) + (1 : Int32)) = (nI ((pl y) + 1)) from (nI_add (pl y) 1))]
      refine mw_go mu_g332 (k := 1) (f1 := (62, [(6, .inl (nI x)), (0, .inr (.inr (some 147))), (1, .inl (nI r)), (2, .inl (nI k)), (3, .inl (1 : Int32)), (4, .inl (nI y)), (5, .inl (nI (pl y)))], [.inl (0 : Int32), .inl (nI ((pl y) + 1)), .inr (.inr (some 147)), .inl (nI x)], Hsb)) (C := []) rfl trivial ?_
      refine mw_cIe (fun _ => rfl) (show mu_is Hsb (some 147) 2 from (ub.1.1.is rfl)) (gr_node (d := (d + 1)) (r := (pl y) + 1) (c := 0) ub db (by (rw [(show (Vb.2.2.1 147 10).1 = (U.2.2.1 147 10).1 from ((zzb.n 147 10 rfl).trans (zza.n 147 10 rfl)))]; omega)) (by (rw [(show (Vb.2.2.1 147 10).1 = (U.2.2.1 147 10).1 from ((zzb.n 147 10 rfl).trans (zza.n 147 10 rfl)))]; omega))) ?_
      rw [show (Vb.2.2.1 147 10).2 (((pl y) + 1) * 7 + 0) = nI (mb ((pl y) + 1)) from (by rw [(show (Vb.2.2.1 147 10) = (U.2.2.1 147 10) from ((zzb.a 147 10 rfl).trans (zza.a 147 10 rfl)))]; exact hmb ((pl y) + 1) (by have := (hpl y (by omega)).2; omega))]
      refine mw_if (P := (nI x) < (nI (mb ((pl y) + 1)))) (a := 68) (b := 141) (fun _ => rfl) trivial (fun h21 => ?_) (fun h21 => ?_)
      · -- 68: (nI x) < (nI (mb ((pl y) + 1)))
        have nh21 : x < (mb ((pl y) + 1)) := (nI_ltI (by omega) (by omega)).mp (show nI x < nI (mb ((pl y) + 1)) from h21)
        refine mw_go mu_g332 (k := 2) (f1 := (72, [(6, .inl (nI x)), (0, .inr (.inr (some 147))), (1, .inl (nI r)), (2, .inl (nI k)), (3, .inl (1 : Int32)), (4, .inl (nI y)), (5, .inl (nI (pl y)))], [.inr (.inr (mu_r Hsb 147 11))], Hsb)) (C := [mu_is Hsb (some 147) 2]) rfl (show mu_is Hsb (some 147) 2 from (ub.1.1.is rfl)) ?_
        rw [(show mu_r Hsb 147 11 = (U.2.2.2.1 147 11) from (ud_q (U := Vb) (m := m) (P := 147) (j := 11) db rfl).trans ((zzb.r 147 11 rfl).trans (zza.r 147 11 rfl)))]
        refine mw_go mu_g332 (k := 2) (f1 := (75, [(6, .inl (nI x)), (0, .inr (.inr (some 147))), (1, .inl (nI r)), (2, .inl (nI k)), (3, .inl (1 : Int32)), (4, .inl (nI y)), (5, .inl (nI (pl y)))], [.inl (mu_i Hsb (mu_p (U.2.2.2.1 147 11)) (nI x).toNatClampNeg)], Hsb)) (C := [mu_isr Hsb (U.2.2.2.1 147 11) 100, vp_in (nI x) (mu_n Hsb (mu_p (U.2.2.2.1 147 11)))]) rfl (show (mu_isr Hsb (U.2.2.2.1 147 11) 100) ∧ (vp_in (nI x) (mu_n Hsb (mu_p (U.2.2.2.1 147 11)))) from ⟨((ub.iA db rfl rfl (show Vb.2.2.2.1 147 11 = (U.2.2.2.1 147 11) from ((zzb.r 147 11 rfl).trans (zza.r 147 11 rfl))))).r, (ub.vA (i := x) db rfl rfl (show Vb.2.2.2.1 147 11 = (U.2.2.2.1 147 11) from ((zzb.r 147 11 rfl).trans (zza.r 147 11 rfl))) (show (Vb.2.2.1 147 11).1 = (U.2.2.1 147 11).1 from ((zzb.n 147 11 rfl).trans (zza.n 147 11 rfl))) (by omega) (by omega))⟩) ?_
        rw [(show (mu_i Hsb (mu_p (U.2.2.2.1 147 11)) (nI x).toNatClampNeg) = (nI (me x)) from ((congrArg (mu_i Hsb (mu_p (U.2.2.2.1 147 11))) (show (nI x).toNatClampNeg = x from nI_clamp (by omega))).trans (ub.gA db rfl rfl (show Vb.2.2.2.1 147 11 = (U.2.2.2.1 147 11) from ((zzb.r 147 11 rfl).trans (zza.r 147 11 rfl))))).trans ((congrArg (fun z => z.2 x) (show Vb.2.2.1 147 11 = (U.2.2.1 147 11) from ((zzb.a 147 11 rfl).trans (zza.a 147 11 rfl)))).trans (hme x (by omega)).1))]
        have hmx : me x < T := (hme x (by omega)).2
        refine mw_go mu_g332 (k := 3) (f1 := (81, [(7, .inl (nI (me x))), (6, .inl (nI x)), (0, .inr (.inr (some 147))), (1, .inl (nI r)), (2, .inl (nI k)), (3, .inl (1 : Int32)), (4, .inl (nI y)), (5, .inl (nI (pl y)))], [.inr (.inr (mu_r Hsb 147 7))], Hsb)) (C := [mu_is Hsb (some 147) 2]) rfl (show mu_is Hsb (some 147) 2 from (ub.1.1.is rfl)) ?_
        rw [(ub.1.1.r (p := 147) (j := 7) (q := 153) rfl)]
        refine mw_go mu_g332 (k := 1) (f1 := (83, [(7, .inl (nI (me x))), (6, .inl (nI x)), (0, .inr (.inr (some 147))), (1, .inl (nI r)), (2, .inl (nI k)), (3, .inl (1 : Int32)), (4, .inl (nI y)), (5, .inl (nI (pl y)))], [.inl (nI (me x)), .inr (.inr (some 153))], Hsb)) (C := []) rfl trivial ?_
        refine mw_cI (fun _ => rfl) trivial ((pv_has_153 (d := (d + 1)) (k := (me x)) ub db (by omega)).imp (fun _ _ z => has_alt (b := bts (Vb.2.2.2.2.1 153) (me x)) z)) (fun x22 H22 q22 => ?_)
        rcases q22 with ⟨rfl, hb22, rfl⟩ | ⟨rfl, hb22, rfl⟩
        · -- (1 : Int32)
          have khb22 : bts (U.2.2.2.2.1 153) (me x) = true := by rw [← (show (Vb.2.2.2.2.1 153) = (U.2.2.2.2.1 153) from ((zzb.l 153 rfl).trans (zza.l 153 rfl)))]; exact hb22
          refine mw_if (P := (1 : Int32) = 0) (a := 135) (b := 89) (fun _ => rfl) trivial (fun h23 => absurd h23 (by decide)) (fun h23 => ?_)
          refine mw_go mu_g332 (k := 2) (f1 := (93, [(7, .inl (nI (me x))), (6, .inl (nI x)), (0, .inr (.inr (some 147))), (1, .inl (nI r)), (2, .inl (nI k)), (3, .inl (1 : Int32)), (4, .inl (nI y)), (5, .inl (nI (pl y)))], [.inr (.inr (mu_r Hsb 147 5))], Hsb)) (C := [mu_is Hsb (some 147) 2]) rfl (show mu_is Hsb (some 147) 2 from (ub.1.1.is rfl)) ?_
          rw [(ub.1.1.r (p := 147) (j := 5) (q := 151) rfl)]
          refine mw_go mu_g332 (k := 3) (f1 := (98, [(7, .inl (nI (me x))), (6, .inl (nI x)), (0, .inr (.inr (some 147))), (1, .inl (nI r)), (2, .inl (nI k)), (3, .inl (1 : Int32)), (4, .inl (nI y)), (5, .inl (nI (pl y)))], [.inl ((nI (me x)) >>> ((6 : Int32) &&& 31)), .inr (.inr (some 151))], Hsb)) (C := []) rfl trivial ?_
          rw [(show ((nI (me x)) >>> ((6 : Int32) &&& 31)) = (nI ((me x) / 64)) from (nI_shr6 (a := me x) (by omega)))]
          refine mw_go mu_g332 (k := 2) (f1 := (100, [(7, .inl (nI (me x))), (6, .inl (nI x)), (0, .inr (.inr (some 147))), (1, .inl (nI r)), (2, .inl (nI k)), (3, .inl (1 : Int32)), (4, .inl (nI y)), (5, .inl (nI (pl y)))], [.inr (.inl (mu_l Hsb 151 (nI ((me x) / 64)).toNatClampNeg)), .inl (nI ((me x) / 64)), .inr (.inr (some 151))], Hsb)) (C := [mu_isr Hsb (some 151) 102, vp_in (nI ((me x) / 64)) (mu_n Hsb 151)]) rfl (show (mu_isr Hsb (some 151) 102) ∧ (vp_in (nI ((me x) / 64)) (mu_n Hsb 151)) from ⟨((ub.1.1.a (p := 151) (x := (102, 256)) rfl).1).r, (by rw [show mu_n Hsb 151 = 256 from (ub.1.1.a (p := 151) (x := (102, 256)) rfl).2]; exact vp_in_nI (n := (me x) / 64) (by omega) (by decide))⟩) ?_
          rw [(show (mu_l Hsb 151 (nI ((me x) / 64)).toNatClampNeg) = (Vb.2.2.2.2.1 151) ((me x) / 64) from (congrArg (mu_l Hsb 151) (show (nI ((me x) / 64)).toNatClampNeg = (me x) / 64 from nI_clamp (by omega))).trans ((ud_l (m := m) (p := 151) (i := ((me x) / 64)) db rfl).trans (congrFun (show Vb.2.2.2.2.1 151 = (Vb.2.2.2.2.1 151) from rfl) ((me x) / 64))))]
          refine mw_go mu_g332 (k := 7) (f1 := (110, [(7, .inl (nI (me x))), (6, .inl (nI x)), (0, .inr (.inr (some 147))), (1, .inl (nI r)), (2, .inl (nI k)), (3, .inl (1 : Int32)), (4, .inl (nI y)), (5, .inl (nI (pl y)))], [], (mu_sl Hsb 151 (nI ((me x) / 64)).toNatClampNeg (((Vb.2.2.2.2.1 151) ((me x) / 64)) &&& (((1 : Int64) <<< ((nI (me x)).toInt64 &&& 63)) ^^^ (-1 : Int64)))))) (C := [mu_is Hsb (some 151) 102, vp_in (nI ((me x) / 64)) (mu_n Hsb 151)]) rfl (show (mu_is Hsb (some 151) 102) ∧ (vp_in (nI ((me x) / 64)) (mu_n Hsb 151)) from ⟨((ub.1.1.a (p := 151) (x := (102, 256)) rfl).1), (by rw [show mu_n Hsb 151 = 256 from (ub.1.1.a (p := 151) (x := (102, 256)) rfl).2]; exact vp_in_nI (n := (me x) / 64) (by omega) (by decide))⟩) ?_
          rw [(show (nI ((me x) / 64)).toNatClampNeg = (me x) / 64 from nI_clamp (by omega))]
          obtain ⟨u24, r24, d24⟩ : um m (mu_sl Hsb 151 ((me x) / 64) (((Vb.2.2.2.2.1 151) ((me x) / 64)) &&& (((1 : Int64) <<< ((nI (me x)).toInt64 &&& 63)) ^^^ (-1 : Int64)))) ∧ ur m C Hsb (mu_sl Hsb 151 ((me x) / 64) (((Vb.2.2.2.2.1 151) ((me x) / 64)) &&& (((1 : Int64) <<< ((nI (me x)).toInt64 &&& 63)) ^^^ (-1 : Int64)))) ∧ ud m (mu_sl Hsb 151 ((me x) / 64) (((Vb.2.2.2.2.1 151) ((me x) / 64)) &&& (((1 : Int64) <<< ((nI (me x)).toInt64 &&& 63)) ^^^ (-1 : Int64)))) = (upL Vb 151 ((me x) / 64) (((Vb.2.2.2.2.1 151) ((me x) / 64)) &&& (((1 : Int64) <<< ((nI (me x)).toInt64 &&& 63)) ^^^ (-1 : Int64)))) := ub.sL (C := C) db rfl
          generalize (mu_sl Hsb 151 ((me x) / 64) (((Vb.2.2.2.2.1 151) ((me x) / 64)) &&& (((1 : Int64) <<< ((nI (me x)).toInt64 &&& 63)) ^^^ (-1 : Int64)))) = Q24 at u24 r24 d24 ⊢
          have qf24 : uq F332 U (upL Vb 151 ((me x) / 64) (((Vb.2.2.2.2.1 151) ((me x) / 64)) &&& (((1 : Int64) <<< ((nI (me x)).toInt64 &&& 63)) ^^^ (-1 : Int64)))) := qfb.L rfl
          have ht24 : ur m C H Q24 := htb.trans r24
          refine mw_go mu_g332 (k := 2) (f1 := (114, [(7, .inl (nI (me x))), (6, .inl (nI x)), (0, .inr (.inr (some 147))), (1, .inl (nI r)), (2, .inl (nI k)), (3, .inl (1 : Int32)), (4, .inl (nI y)), (5, .inl (nI (pl y)))], [.inr (.inr (mu_r Q24 147 8))], Q24)) (C := [mu_is Q24 (some 147) 2]) rfl (show mu_is Q24 (some 147) 2 from (u24.1.1.is rfl)) ?_
          rw [(show mu_r Q24 147 8 = (some gq) from (ud_q (U := (upL Vb 151 ((me x) / 64) (((Vb.2.2.2.2.1 151) ((me x) / 64)) &&& (((1 : Int64) <<< ((nI (me x)).toInt64 &&& 63)) ^^^ (-1 : Int64))))) (m := m) (P := 147) (j := 8) d24 rfl).trans ((zzb.r 147 8 rfl).trans ((zza.r 147 8 rfl).trans hgo)))]
          refine mw_go mu_g332 (k := 3) (f1 := (119, [(7, .inl (nI (me x))), (6, .inl (nI x)), (0, .inr (.inr (some 147))), (1, .inl (nI r)), (2, .inl (nI k)), (3, .inl (1 : Int32)), (4, .inl (nI y)), (5, .inl (nI (pl y)))], [.inl ((nI (me x)) >>> ((6 : Int32) &&& 31)), .inr (.inr (some gq))], Q24)) (C := []) rfl trivial ?_
          rw [(show ((nI (me x)) >>> ((6 : Int32) &&& 31)) = (nI ((me x) / 64)) from (nI_shr6 (a := me x) (by omega)))]
          refine mw_go mu_g332 (k := 1) (f1 := (120, [(7, .inl (nI (me x))), (6, .inl (nI x)), (0, .inr (.inr (some 147))), (1, .inl (nI r)), (2, .inl (nI k)), (3, .inl (1 : Int32)), (4, .inl (nI y)), (5, .inl (nI (pl y)))], [.inl (nI ((me x) / 64)), .inr (.inr (some gq)), .inl (nI ((me x) / 64)), .inr (.inr (some gq))], Q24)) (C := []) rfl trivial ?_
          obtain ⟨kb25, kc25, kd25⟩ := LSN.read u24 d24 (hgb.keep (fun _ _ _ => rfl) rfl)
          refine mw_go mu_g332 (k := 1) (f1 := (121, [(7, .inl (nI (me x))), (6, .inl (nI x)), (0, .inr (.inr (some 147))), (1, .inl (nI r)), (2, .inl (nI k)), (3, .inl (1 : Int32)), (4, .inl (nI y)), (5, .inl (nI (pl y)))], [.inr (.inl (mu_l Q24 gq (nI ((me x) / 64)).toNatClampNeg)), .inl (nI ((me x) / 64)), .inr (.inr (some gq))], Q24)) (C := [mu_isr Q24 (some gq) 102, vp_in (nI ((me x) / 64)) (mu_n Q24 gq)]) rfl (show (mu_isr Q24 (some gq) 102) ∧ (vp_in (nI ((me x) / 64)) (mu_n Q24 gq)) from ⟨kb25.r, (by rw [kc25]; exact vp_in_nI (n := (me x) / 64) (by omega) (by decide))⟩) ?_
          rw [(show (mu_l Q24 gq (nI ((me x) / 64)).toNatClampNeg) = ((lgf (upL Vb 151 ((me x) / 64) (((Vb.2.2.2.2.1 151) ((me x) / 64)) &&& (((1 : Int64) <<< ((nI (me x)).toInt64 &&& 63)) ^^^ (-1 : Int64)))) ga gi) ((me x) / 64)) from (congrArg (mu_l Q24 gq) (show (nI ((me x) / 64)).toNatClampNeg = (me x) / 64 from nI_clamp (by omega))).trans (kd25 ((me x) / 64)))]
          refine mw_go mu_g332 (k := 1) (f1 := (122, [(7, .inl (nI (me x))), (6, .inl (nI x)), (0, .inr (.inr (some 147))), (1, .inl (nI r)), (2, .inl (nI k)), (3, .inl (1 : Int32)), (4, .inl (nI y)), (5, .inl (nI (pl y)))], [.inl (1 : Int32), .inr (.inl ((lgf (upL Vb 151 ((me x) / 64) (((Vb.2.2.2.2.1 151) ((me x) / 64)) &&& (((1 : Int64) <<< ((nI (me x)).toInt64 &&& 63)) ^^^ (-1 : Int64)))) ga gi) ((me x) / 64))), .inl (nI ((me x) / 64)), .inr (.inr (some gq))], Q24)) (C := []) rfl trivial ?_
          refine mw_if (P := (1 : Int32) = 0) (a := 132) (b := 125) (fun _ => rfl) trivial (fun h26 => absurd h26 (by decide)) (fun h26 => ?_)
          refine mw_go mu_g332 (k := 5) (f1 := (134, [(7, .inl (nI (me x))), (6, .inl (nI x)), (0, .inr (.inr (some 147))), (1, .inl (nI r)), (2, .inl (nI k)), (3, .inl (1 : Int32)), (4, .inl (nI y)), (5, .inl (nI (pl y)))], [.inr (.inl (((lgf (upL Vb 151 ((me x) / 64) (((Vb.2.2.2.2.1 151) ((me x) / 64)) &&& (((1 : Int64) <<< ((nI (me x)).toInt64 &&& 63)) ^^^ (-1 : Int64)))) ga gi) ((me x) / 64)) ||| ((1 : Int64) <<< ((nI (me x)).toInt64 &&& 63)))), .inl (nI ((me x) / 64)), .inr (.inr (some gq))], Q24)) (C := []) rfl trivial ?_
          obtain ⟨kb27, kc27, -⟩ := LSN.read u24 d24 (hgb.keep (fun _ _ _ => rfl) rfl)
          refine mw_go mu_g332 (k := 1) (f1 := (135, [(7, .inl (nI (me x))), (6, .inl (nI x)), (0, .inr (.inr (some 147))), (1, .inl (nI r)), (2, .inl (nI k)), (3, .inl (1 : Int32)), (4, .inl (nI y)), (5, .inl (nI (pl y)))], [], (mu_sl Q24 gq (nI ((me x) / 64)).toNatClampNeg (((lgf (upL Vb 151 ((me x) / 64) (((Vb.2.2.2.2.1 151) ((me x) / 64)) &&& (((1 : Int64) <<< ((nI (me x)).toInt64 &&& 63)) ^^^ (-1 : Int64)))) ga gi) ((me x) / 64)) ||| ((1 : Int64) <<< ((nI (me x)).toInt64 &&& 63)))))) (C := [mu_is Q24 (some gq) 102, vp_in (nI ((me x) / 64)) (mu_n Q24 gq)]) rfl (show (mu_is Q24 (some gq) 102) ∧ (vp_in (nI ((me x) / 64)) (mu_n Q24 gq)) from ⟨kb27, (by rw [kc27]; exact vp_in_nI (n := (me x) / 64) (by omega) (by decide))⟩) ?_
          rw [(show (nI ((me x) / 64)).toNatClampNeg = (me x) / 64 from nI_clamp (by omega))]
          obtain ⟨u27, r27, z27, gk27, gl27, gf27⟩ := LSN.write (C := C) (k := (me x) / 64) (v := (((lgf (upL Vb 151 ((me x) / 64) (((Vb.2.2.2.2.1 151) ((me x) / 64)) &&& (((1 : Int64) <<< ((nI (me x)).toInt64 &&& 63)) ^^^ (-1 : Int64)))) ga gi) ((me x) / 64)) ||| ((1 : Int64) <<< ((nI (me x)).toInt64 &&& 63)))) u24 d24 (hgb.keep (fun _ _ _ => rfl) rfl)
          generalize (mu_sl Q24 gq ((me x) / 64) (((lgf (upL Vb 151 ((me x) / 64) (((Vb.2.2.2.2.1 151) ((me x) / 64)) &&& (((1 : Int64) <<< ((nI (me x)).toInt64 &&& 63)) ^^^ (-1 : Int64)))) ga gi) ((me x) / 64)) ||| ((1 : Int64) <<< ((nI (me x)).toInt64 &&& 63)))) = Q27 at u27 r27 z27 gk27 gl27 gf27 ⊢
          obtain ⟨V27, d27⟩ : ∃ V, ud m Q27 = V := ⟨_, rfl⟩
          rw [d27] at z27 gk27 gl27 gf27
          have ht27 : ur m C H Q27 := ht24.trans r27
          have qf27 : uq F332 U V27 := qf24.tr z27 rfl
          refine mw_go mu_g332 (k := 1) (f1 := (138, [(6, .inl ((nI x) + 1)), (7, .inl (nI (me x))), (0, .inr (.inr (some 147))), (1, .inl (nI r)), (2, .inl (nI k)), (3, .inl (1 : Int32)), (4, .inl (nI y)), (5, .inl (nI (pl y)))], [], Q27)) (C := []) rfl trivial ?_
          rw [(show ((nI x) + 1) = (nI (x + 1)) from (nI_add x 1))]
          refine mw_go mu_g332 (k := 1) (f1 := (54, [(6, .inl (nI (x + 1))), (7, .inl (nI (me x))), (0, .inr (.inr (some 147))), (1, .inl (nI r)), (2, .inl (nI k)), (3, .inl (1 : Int32)), (4, .inl (nI y)), (5, .inl (nI (pl y)))], [], Q27)) (C := []) rfl trivial ?_
          exact mw_sub (by simp) (ihb (x + 1, Q27) ⟨u27, ht27, (show uq F332b Va (ud m Q27) from by rw [d27]; exact ((zzb.L rfl).tr z27 rfl)), (show mb (pl y) ≤ (x + 1) ∧ (x + 1) ≤ mb (pl y + 1) from (by omega)), (show LSN (ud m Q27) ga gi gq 256 from by rw [d27]; exact gl27), (show GKP ga gi U (ud m Q27) from by rw [d27]; exact (hkb.trans ((GKP.of_eq (fun p hp => upL_ne (by omega)) rfl).trans gk27))), (show ∀ t, bts ((ud m Q27).2.2.2.2.1 151) t = true ↔ (bts (U.2.2.2.2.1 151) t = true ∧ ¬ MSO U pl mb me k y t) ∧ ¬ ∃ i, mb (pl y) ≤ i ∧ i < (x + 1) ∧ me i = t ∧ bts (U.2.2.2.2.1 153) t = true from by rw [d27]; exact (fun t => by rw [show V27.2.2.2.2.1 151 = (upL Vb 151 ((me x) / 64) (((Vb.2.2.2.2.1 151) ((me x) / 64)) &&& (((1 : Int64) <<< ((nI (me x)).toInt64 &&& 63)) ^^^ (-1 : Int64)))).2.2.2.2.1 151 from z27.l 151 rfl, upL_at, bts_setoff (by omega), hpb t]; exact mem_off (A := fun t => bts (U.2.2.2.2.1 153) t = true) (by omega) khb22)), (show ∀ t, bts (lgf (ud m Q27) ga gi) t = true ↔ (bts (lgf U ga gi) t = true ∨ (lv % 2 = 1 ∧ MSO U pl mb me k y t)) ∨ (lv % 2 = 1 ∧ ∃ i, mb (pl y) ≤ i ∧ i < (x + 1) ∧ me i = t ∧ bts (U.2.2.2.2.1 153) t = true) from by rw [d27]; exact (fun t => by rw [show lgf V27 ga gi = _ from funext gf27, (show lgf (upL Vb 151 ((me x) / 64) (((Vb.2.2.2.2.1 151) ((me x) / 64)) &&& (((1 : Int64) <<< ((nI (me x)).toInt64 &&& 63)) ^^^ (-1 : Int64)))) ga gi = lgf Vb ga gi from lsf_of_eq (fun p hp => upL_ne (by omega)) rfl hgb)]; rw [bts_seton (by omega), hvb t]; have w := mem_on (A := fun t => bts (U.2.2.2.2.1 153) t = true) (P := False) (t := t) (a := mb (pl y)) (x := x) (me := me) (by omega) khb22; rw [false_or, false_or] at w; rw [← w]; exact ⟨fun z => (by rcases z with (z | z) | z; (exact Or.inl z); (exact Or.inr ⟨z.1, Or.inl z.2⟩); (exact Or.inr ⟨hfin, Or.inr z⟩)), fun z => (by rcases z with z | ⟨z1, z | z⟩; (exact Or.inl (Or.inl z)); (exact Or.inl (Or.inr ⟨z1, z⟩)); (exact Or.inr z))⟩))⟩ (by show mb (pl y + 1) - (x + 1) < mb (pl y + 1) - x; omega))
        · -- (0 : Int32)
          have khb22 : bts (U.2.2.2.2.1 153) (me x) = false := by rw [← (show (Vb.2.2.2.2.1 153) = (U.2.2.2.2.1 153) from ((zzb.l 153 rfl).trans (zza.l 153 rfl)))]; exact hb22
          refine mw_if (P := (0 : Int32) = 0) (a := 135) (b := 89) (fun _ => rfl) trivial (fun h28 => ?_) (fun h28 => absurd (by decide) h28)
          refine mw_go mu_g332 (k := 1) (f1 := (138, [(6, .inl ((nI x) + 1)), (7, .inl (nI (me x))), (0, .inr (.inr (some 147))), (1, .inl (nI r)), (2, .inl (nI k)), (3, .inl (1 : Int32)), (4, .inl (nI y)), (5, .inl (nI (pl y)))], [], Hsb)) (C := []) rfl trivial ?_
          rw [(show ((nI x) + 1) = (nI (x + 1)) from (nI_add x 1))]
          refine mw_go mu_g332 (k := 1) (f1 := (54, [(6, .inl (nI (x + 1))), (7, .inl (nI (me x))), (0, .inr (.inr (some 147))), (1, .inl (nI r)), (2, .inl (nI k)), (3, .inl (1 : Int32)), (4, .inl (nI y)), (5, .inl (nI (pl y)))], [], Hsb)) (C := []) rfl trivial ?_
          exact mw_sub (by simp) (ihb (x + 1, Hsb) ⟨ub, htb, (show uq F332b Va (ud m Hsb) from by rw [db]; exact zzb), (show mb (pl y) ≤ (x + 1) ∧ (x + 1) ≤ mb (pl y + 1) from (by omega)), (show LSN (ud m Hsb) ga gi gq 256 from by rw [db]; exact hgb), (show GKP ga gi U (ud m Hsb) from by rw [db]; exact hkb), (show ∀ t, bts ((ud m Hsb).2.2.2.2.1 151) t = true ↔ (bts (U.2.2.2.2.1 151) t = true ∧ ¬ MSO U pl mb me k y t) ∧ ¬ ∃ i, mb (pl y) ≤ i ∧ i < (x + 1) ∧ me i = t ∧ bts (U.2.2.2.2.1 153) t = true from by rw [db]; exact (fun t => by rw [hpb t, (mem_no (A := fun t => bts (U.2.2.2.2.1 153) t = true) (me := me) (a := mb (pl y)) (x := x) (t := t) (fun z => by rw [khb22] at z; cases z))])), (show ∀ t, bts (lgf (ud m Hsb) ga gi) t = true ↔ (bts (lgf U ga gi) t = true ∨ (lv % 2 = 1 ∧ MSO U pl mb me k y t)) ∨ (lv % 2 = 1 ∧ ∃ i, mb (pl y) ≤ i ∧ i < (x + 1) ∧ me i = t ∧ bts (U.2.2.2.2.1 153) t = true) from by rw [db]; exact (fun t => by rw [hvb t, (mem_no (A := fun t => bts (U.2.2.2.2.1 153) t = true) (me := me) (a := mb (pl y)) (x := x) (t := t) (fun z => by rw [khb22] at z; cases z))]))⟩ (by show mb (pl y + 1) - (x + 1) < mb (pl y + 1) - x; omega))
      · -- 141: not (nI x) < (nI (mb ((pl y) + 1)))
        have nh21 : ¬ x < (mb ((pl y) + 1)) := fun z => h21 (show nI x < nI (mb ((pl y) + 1)) from (nI_ltI (by omega) (by omega)).mpr z)
        refine mw_go mu_g332 (k := 1) (f1 := (144, [(4, .inl ((nI y) + 1)), (6, .inl (nI x)), (0, .inr (.inr (some 147))), (1, .inl (nI r)), (2, .inl (nI k)), (3, .inl (1 : Int32)), (5, .inl (nI (pl y)))], [], Hsb)) (C := []) rfl trivial ?_
        rw [(show ((nI y) + 1) = (nI (y + 1)) from (nI_add y 1))]
        refine mw_go mu_g332 (k := 1) (f1 := (26, [(4, .inl (nI (y + 1))), (6, .inl (nI x)), (0, .inr (.inr (some 147))), (1, .inl (nI r)), (2, .inl (nI k)), (3, .inl (1 : Int32)), (5, .inl (nI (pl y)))], [], Hsb)) (C := []) rfl trivial ?_
        exact mw_sub (by simp) (iha (y + 1, Hsb) ⟨ub, htb, (show uq F332a U (ud m Hsb) from by rw [db]; exact (zza.tr zzb rfl)), (show k ≤ (y + 1) ∧ (y + 1) ≤ ls from (by omega)), (show LSN (ud m Hsb) ga gi gq 256 from by rw [db]; exact hgb), (show GKP ga gi U (ud m Hsb) from by rw [db]; exact hkb), (show ∀ t, bts ((ud m Hsb).2.2.2.2.1 151) t = true ↔ bts (U.2.2.2.2.1 151) t = true ∧ ¬ MSO U pl mb me k (y + 1) t from by rw [db]; exact (fun t => by rw [hpb t, mso_step hy.1, show x = mb (pl y + 1) by omega, not_or, and_assoc])), (show ∀ t, bts (lgf (ud m Hsb) ga gi) t = true ↔ bts (lgf U ga gi) t = true ∨ (lv % 2 = 1 ∧ MSO U pl mb me k (y + 1) t) from by rw [db]; exact (fun t => by rw [hvb t, mso_step hy.1, show x = mb (pl y + 1) by omega, or_assoc, ← and_or_left]))⟩ (by show ls - (y + 1) < ls - y; omega))
    · -- 147: not (nI y) < (nI ls)
      have nh17 : ¬ y < ls := fun z => h17 (show nI y < nI ls from (nI_ltI (by omega) (by omega)).mpr z)
      refine mw_go mu_g332 (k := 3) (f1 := (152, [(4, .inl (nI y)), (0, .inr (.inr (some 147))), (1, .inl (nI r)), (2, .inl (nI k)), (3, .inl (1 : Int32))], [], (mu_si Hsa 147 21 (nI k)))) (C := [mu_is Hsa (some 147) 2]) rfl (show mu_is Hsa (some 147) 2 from (ua.1.1.is rfl)) ?_
      obtain ⟨u29, r29, d29⟩ : um m (mu_si Hsa 147 21 (nI k)) ∧ ur m C Hsa (mu_si Hsa 147 21 (nI k)) ∧ ud m (mu_si Hsa 147 21 (nI k)) = (upI Va 147 21 (nI k)) := ua.sI (C := C) da rfl
      generalize (mu_si Hsa 147 21 (nI k)) = Q29 at u29 r29 d29 ⊢
      have qf29 : uq F332 U (upI Va 147 21 (nI k)) := qfa.I rfl
      have ht29 : ur m C H Q29 := hta.trans r29
      have hyl : y = ls := by omega
      rw [hyl] at hpa hva
      refine mw_of (fun _ => mu_ret rfl trivial ⟨Q29, rfl, u29, ht29, (by rw [d29]; exact qf29), ?_⟩)
      rw [d29]
      have hmT : ∀ i, i < T → me i < T := fun i hi => (hme i hi).2
      have hbT : ∀ i, i < ls → mb (pl i + 1) ≤ T := fun i hi => (hmp1 _ (hpl i hi).2).2
      have hpR : ∀ i, i < ls → pl i < R := fun i hi => (hpl i hi).2
      have hls2 : lgf (upI Va 147 21 (nI k)) ga gi = lgf Va ga gi := lsf_of_eq (fun p hp => rfl) rfl hga
      refine ⟨rfl, hka.trans (GKP.of_eq (fun p hp => rfl) rfl), hga.keep (fun _ _ _ => rfl) rfl, ⟨fun t ht => (hpa t).trans (and_congr Iff.rfl (not_congr (mso_scc ⟨hmp1, hmp2, hmp3, hmp4⟩ hpR ht))), fun t z => ((hpa t).mp z).1⟩, fun t ht => ?_, fun t z => ?_⟩
      · rw [hls2, hva t, mso_scc ⟨hmp1, hmp2, hmp3, hmp4⟩ hpR ht]
      · rw [hls2, hva t] at z; exact z.imp id (fun w => mso_T hmT hbT w.2)
def F333 : Uf := ⟨[], [(147, 20)], [(147, 10)], [], [], false⟩

/-- PathProver$Graph.leave(I)V -/
abbrev mu_m333 : ev_M := (3, none, [], ev_b333)
theorem mu_g333 : mu_good mu_m333 := mu_goodk ev_k333
theorem gr_leave (h : um m H) (e : ud m H = U) (hG : GRB U T R wn rx mb me) (hps : U.2.1 147 20 = nI (pz + 1)) (hpb : pz ≤ T + 1) (hr : r < R) (hab : 0 < pz → (U.2.2.1 147 10).2 ((pz - 1) * 7 + 5) = nI ab ∧ ab < R ∧ (U.2.2.1 147 10).2 (ab * 7 + 2) = nI la ∧ (U.2.2.1 147 10).2 (ab * 7 + 4) = nI da) (hlab : la < 2147483648) (hda4 : da < 4) (hlr : (U.2.2.1 147 10).2 (r * 7 + 2) = nI lr) (hlrb : lr < 2147483648) (hdr : (U.2.2.1 147 10).2 (r * 7 + 4) = nI dr) (hdr4 : dr < 4) : mu_TV (mu_D (d + 2)) 333 [.inr (.inr (some 147)), .inl (nI r)] H (fun H1 => um m H1 ∧ ur m C H H1 ∧ uq F333 U (ud m H1) ∧ (ud m H1).2.1 147 20 = nI pz ∧ ((pz = 0 ∧ (ud m H1).2.2.1 147 10 = U.2.2.1 147 10) ∨ (0 < pz ∧ ∀ j, ((ud m H1).2.2.1 147 10).2 j = if j = ab * 7 + 4 then nI (if dr % 2 = 1 ∧ da % 2 = 0 then da + 1 else da) else if j = ab * 7 + 2 then nI (min la lr) else (U.2.2.1 147 10).2 j))) := by
  obtain ⟨⟨⟨hg12, hg11⟩, hgwn, hTb⟩, ⟨⟨g6a, g6b⟩, hrx⟩, ⟨hRT, g10a, g10b⟩, ⟨g11a, g11b⟩, ⟨g12a, g12b⟩, ⟨g13a, g13b⟩, hmb, hme, hmp1, hmp2, hmp3, hmp4⟩ := id hG
  refine mu_meth (M := mu_m333) rfl rfl ?_
  refine mw_ht (mu_fn_of (show [0, 1].Nodup by decide)) ?_
  refine mw_go mu_g333 (k := 3) (f1 := (5, [(0, .inr (.inr (some 147))), (1, .inl (nI r))], [.inl (mu_i H 147 20), .inr (.inr (some 147))], H)) (C := [mu_is H (some 147) 2]) rfl (show mu_is H (some 147) 2 from (h.1.1.is rfl)) ?_
  rw [(show mu_i H 147 20 = (nI (pz + 1)) from (ud_i (U := U) (m := m) (P := 147) (j := 20) e rfl).trans hps)]
  refine mw_go mu_g333 (k := 2) (f1 := (7, [(0, .inr (.inr (some 147))), (1, .inl (nI r))], [.inl ((nI (pz + 1)) - (1 : Int32)), .inr (.inr (some 147))], H)) (C := []) rfl trivial ?_
  rw [(show ((nI (pz + 1)) - (1 : Int32)) = (nI pz) from ((nI_sub (a := pz + 1) (b := 1) (by omega)).trans (congrArg nI (by omega))))]
  refine mw_go mu_g333 (k := 1) (f1 := (10, [(0, .inr (.inr (some 147))), (1, .inl (nI r))], [], (mu_si H 147 20 (nI pz)))) (C := [mu_is H (some 147) 2]) rfl (show mu_is H (some 147) 2 from (h.1.1.is rfl)) ?_
  obtain ⟨u1, r1, d1⟩ : um m (mu_si H 147 20 (nI pz)) ∧ ur m C H (mu_si H 147 20 (nI pz)) ∧ ud m (mu_si H 147 20 (nI pz)) = (upI U 147 20 (nI pz)) := h.sI (C := C) e rfl
  generalize (mu_si H 147 20 (nI pz)) = Q1 at u1 r1 d1 ⊢
  have qf1 : uq F333 U (upI U 147 20 (nI pz)) := (uq.refl F333 U).I rfl
  have ht1 : ur m C H Q1 := (ur.refl m C H).trans r1
  refine mw_go mu_g333 (k := 2) (f1 := (14, [(0, .inr (.inr (some 147))), (1, .inl (nI r))], [.inl (mu_i Q1 147 20)], Q1)) (C := [mu_is Q1 (some 147) 2]) rfl (show mu_is Q1 (some 147) 2 from (u1.1.1.is rfl)) ?_
  rw [(show mu_i Q1 147 20 = (nI pz) from (ud_i (U := (upI U 147 20 (nI pz))) (m := m) (P := 147) (j := 20) d1 rfl))]
  refine mw_if (P := 0 < (nI pz)) (a := 17) (b := 71) (fun _ => rfl) trivial (fun h2 => ?_) (fun h2 => ?_)
  · -- 17: 0 < (nI pz)
    have nh2 : 0 < pz := (nI_ltI (by omega) (by omega)).mp (show nI 0 < nI pz from h2)
    obtain ⟨hab0, habR, hla, hda⟩ := hab (by omega)
    refine mw_go mu_g333 (k := 3) (f1 := (22, [(0, .inr (.inr (some 147))), (1, .inl (nI r))], [.inl (mu_i Q1 147 20), .inr (.inr (some 147))], Q1)) (C := [mu_is Q1 (some 147) 2]) rfl (show mu_is Q1 (some 147) 2 from (u1.1.1.is rfl)) ?_
    rw [(show mu_i Q1 147 20 = (nI pz) from (ud_i (U := (upI U 147 20 (nI pz))) (m := m) (P := 147) (j := 20) d1 rfl))]
    refine mw_go mu_g333 (k := 2) (f1 := (24, [(0, .inr (.inr (some 147))), (1, .inl (nI r))], [.inl ((nI pz) - (1 : Int32)), .inr (.inr (some 147))], Q1)) (C := []) rfl trivial ?_
    rw [(show ((nI pz) - (1 : Int32)) = (nI (pz - 1)) from (nI_sub (a := pz) (b := 1) (by omega)))]
    refine mw_go mu_g333 (k := 1) (f1 := (25, [(0, .inr (.inr (some 147))), (1, .inl (nI r))], [.inl (5 : Int32), .inl (nI (pz - 1)), .inr (.inr (some 147))], Q1)) (C := []) rfl trivial ?_
    refine mw_cIe (fun _ => rfl) (show mu_is Q1 (some 147) 2 from (u1.1.1.is rfl)) (gr_node (d := d) (r := pz - 1) (c := 5) u1 d1 (by (rw [(show ((upI U 147 20 (nI pz)).2.2.1 147 10).1 = (U.2.2.1 147 10).1 from rfl)]; omega)) (by (rw [(show ((upI U 147 20 (nI pz)).2.2.1 147 10).1 = (U.2.2.1 147 10).1 from rfl)]; omega))) ?_
    rw [show ((upI U 147 20 (nI pz)).2.2.1 147 10).2 ((pz - 1) * 7 + 5) = nI ab from (by rw [show (upI U 147 20 (nI pz)).2.2.1 147 10 = U.2.2.1 147 10 from rfl]; exact hab0)]
    refine mw_go mu_g333 (k := 7) (f1 := (35, [(2, .inl (nI ab)), (0, .inr (.inr (some 147))), (1, .inl (nI r))], [.inl (2 : Int32), .inl (nI ab), .inr (.inr (some 147)), .inl (2 : Int32), .inl (nI ab), .inr (.inr (some 147))], Q1)) (C := []) rfl trivial ?_
    refine mw_cIe (fun _ => rfl) (show mu_is Q1 (some 147) 2 from (u1.1.1.is rfl)) (gr_node (d := d) (r := ab) (c := 2) u1 d1 (by (rw [(show ((upI U 147 20 (nI pz)).2.2.1 147 10).1 = (U.2.2.1 147 10).1 from rfl)]; omega)) (by (rw [(show ((upI U 147 20 (nI pz)).2.2.1 147 10).1 = (U.2.2.1 147 10).1 from rfl)]; omega))) ?_
    rw [show ((upI U 147 20 (nI pz)).2.2.1 147 10).2 (ab * 7 + 2) = nI la from (by rw [show (upI U 147 20 (nI pz)).2.2.1 147 10 = U.2.2.1 147 10 from rfl]; exact hla)]
    refine mw_go mu_g333 (k := 3) (f1 := (41, [(2, .inl (nI ab)), (0, .inr (.inr (some 147))), (1, .inl (nI r))], [.inl (2 : Int32), .inl (nI r), .inr (.inr (some 147)), .inl (nI la), .inl (2 : Int32), .inl (nI ab), .inr (.inr (some 147))], Q1)) (C := []) rfl trivial ?_
    refine mw_cIe (fun _ => rfl) (show mu_is Q1 (some 147) 2 from (u1.1.1.is rfl)) (gr_node (d := d) (r := r) (c := 2) u1 d1 (by (rw [(show ((upI U 147 20 (nI pz)).2.2.1 147 10).1 = (U.2.2.1 147 10).1 from rfl)]; omega)) (by (rw [(show ((upI U 147 20 (nI pz)).2.2.1 147 10).1 = (U.2.2.1 147 10).1 from rfl)]; omega))) ?_
    rw [show ((upI U 147 20 (nI pz)).2.2.1 147 10).2 (r * 7 + 2) = nI lr from (by rw [show (upI U 147 20 (nI pz)).2.2.1 147 10 = U.2.2.1 147 10 from rfl]; exact hlr)]
    refine mw_cIe (fun _ => rfl) trivial (mu_min_ok (d := d) (nI la) (nI lr)) ?_
    rw [show (mu_min (nI la) (nI lr)) = nI (min la lr) from mu_min_n (a := la) (b := lr) (by omega) (by omega)]
    refine mw_cV (fun _ => rfl) (show mu_is Q1 (some 147) 2 from (u1.1.1.is rfl)) (gr_set (d := d) (C := C) (r := ab) (c := 2) (v := (nI (min la lr))) u1 d1 (by (rw [(show ((upI U 147 20 (nI pz)).2.2.1 147 10).1 = (U.2.2.1 147 10).1 from rfl)]; omega)) (by (rw [(show ((upI U 147 20 (nI pz)).2.2.1 147 10).1 = (U.2.2.1 147 10).1 from rfl)]; omega))) (fun Q7 q7 => ?_)
    obtain ⟨u7, r7, d7⟩ := q7
    have ht7 : ur m C H Q7 := ht1.trans r7
    have qf7 : uq F333 U (upA (upI U 147 20 (nI pz)) 147 10 (ab * 7 + 2) (nI (min la lr))) := qf1.A rfl
    refine mw_go mu_g333 (k := 6) (f1 := (56, [(2, .inl (nI ab)), (0, .inr (.inr (some 147))), (1, .inl (nI r))], [.inl (4 : Int32), .inl (nI ab), .inr (.inr (some 147)), .inl (4 : Int32), .inl (nI ab), .inr (.inr (some 147))], Q7)) (C := []) rfl trivial ?_
    refine mw_cIe (fun _ => rfl) (show mu_is Q7 (some 147) 2 from (u7.1.1.is rfl)) (gr_node (d := d) (r := ab) (c := 4) u7 d7 (by (rw [(show ((upA (upI U 147 20 (nI pz)) 147 10 (ab * 7 + 2) (nI (min la lr))).2.2.1 147 10).1 = (U.2.2.1 147 10).1 from rfl)]; omega)) (by (rw [(show ((upA (upI U 147 20 (nI pz)) 147 10 (ab * 7 + 2) (nI (min la lr))).2.2.1 147 10).1 = (U.2.2.1 147 10).1 from rfl)]; omega))) ?_
    rw [show ((upA (upI U 147 20 (nI pz)) 147 10 (ab * 7 + 2) (nI (min la lr))).2.2.1 147 10).2 (ab * 7 + 4) = nI da from (by rw [show ((upA (upI U 147 20 (nI pz)) 147 10 (ab * 7 + 2) (nI (min la lr))).2.2.1 147 10).2 (ab * 7 + 4) = (U.2.2.1 147 10).2 (ab * 7 + 4) from if_neg (by omega)]; exact hda)]
    refine mw_go mu_g333 (k := 3) (f1 := (62, [(2, .inl (nI ab)), (0, .inr (.inr (some 147))), (1, .inl (nI r))], [.inl (4 : Int32), .inl (nI r), .inr (.inr (some 147)), .inl (nI da), .inl (4 : Int32), .inl (nI ab), .inr (.inr (some 147))], Q7)) (C := []) rfl trivial ?_
    refine mw_cIe (fun _ => rfl) (show mu_is Q7 (some 147) 2 from (u7.1.1.is rfl)) (gr_node (d := d) (r := r) (c := 4) u7 d7 (by (rw [(show ((upA (upI U 147 20 (nI pz)) 147 10 (ab * 7 + 2) (nI (min la lr))).2.2.1 147 10).1 = (U.2.2.1 147 10).1 from rfl)]; omega)) (by (rw [(show ((upA (upI U 147 20 (nI pz)) 147 10 (ab * 7 + 2) (nI (min la lr))).2.2.1 147 10).1 = (U.2.2.1 147 10).1 from rfl)]; omega))) ?_
    rw [show ((upA (upI U 147 20 (nI pz)) 147 10 (ab * 7 + 2) (nI (min la lr))).2.2.1 147 10).2 (r * 7 + 4) = nI dr from (by rw [show ((upA (upI U 147 20 (nI pz)) 147 10 (ab * 7 + 2) (nI (min la lr))).2.2.1 147 10).2 (r * 7 + 4) = (U.2.2.1 147 10).2 (r * 7 + 4) from if_neg (by omega)]; exact hdr)]
    refine mw_go mu_g333 (k := 3) (f1 := (68, [(2, .inl (nI ab)), (0, .inr (.inr (some 147))), (1, .inl (nI r))], [.inl ((nI da) ||| ((nI dr) &&& (1 : Int32))), .inl (4 : Int32), .inl (nI ab), .inr (.inr (some 147))], Q7)) (C := []) rfl trivial ?_
    rw [show ((nI da) ||| ((nI dr) &&& (1 : Int32))) = nI (if dr % 2 = 1 ∧ da % 2 = 0 then da + 1 else da) from or4 da hda4 dr hdr4]
    refine mw_cV (fun _ => rfl) (show mu_is Q7 (some 147) 2 from (u7.1.1.is rfl)) (gr_set (d := d) (C := C) (r := ab) (c := 4) (v := (nI (if dr % 2 = 1 ∧ da % 2 = 0 then da + 1 else da))) u7 d7 (by (rw [(show ((upA (upI U 147 20 (nI pz)) 147 10 (ab * 7 + 2) (nI (min la lr))).2.2.1 147 10).1 = (U.2.2.1 147 10).1 from rfl)]; omega)) (by (rw [(show ((upA (upI U 147 20 (nI pz)) 147 10 (ab * 7 + 2) (nI (min la lr))).2.2.1 147 10).1 = (U.2.2.1 147 10).1 from rfl)]; omega))) (fun Q10 q10 => ?_)
    obtain ⟨u10, r10, d10⟩ := q10
    have ht10 : ur m C H Q10 := ht7.trans r10
    have qf10 : uq F333 U (upA (upA (upI U 147 20 (nI pz)) 147 10 (ab * 7 + 2) (nI (min la lr))) 147 10 (ab * 7 + 4) (nI (if dr % 2 = 1 ∧ da % 2 = 0 then da + 1 else da))) := qf7.A rfl
    refine mw_of (fun _ => mu_ret rfl trivial ⟨Q10, rfl, u10, ht10, (by rw [d10]; exact qf10), ?_⟩)
    rw [d10]
    exact ⟨rfl, Or.inr ⟨by omega, fun j => rfl⟩⟩
  · -- 71: not 0 < (nI pz)
    have nh2 : ¬ 0 < pz := fun z => h2 (show nI 0 < nI pz from (nI_ltI (by omega) (by omega)).mpr z)
    refine mw_of (fun _ => mu_ret rfl trivial ⟨Q1, rfl, u1, ht1, (by rw [d1]; exact qf1), ?_⟩)
    rw [d1]
    exact ⟨rfl, Or.inl ⟨by omega, rfl⟩⟩
end Settle
