/-! GRAPH: openNext -/
section Bits1
variable {La : Nat → Int64} {x t : Nat}
theorem bts_seton (hx : x < 2147483648) : bts (fun k => if k = x / 64 then La (x / 64) ||| ((1 : Int64) <<< ((nI x).toInt64 &&& 63)) else La k) t = true ↔ bts La t = true ∨ t = x := by
  unfold bts
  have hq : t % 64 < 64 := Nat.mod_lt _ (by decide)
  show btz (if t / 64 = x / 64 then La (x / 64) ||| ((1 : Int64) <<< ((nI x).toInt64 &&& 63)) else La (t / 64)) (t % 64) = true ↔ _
  by_cases h : t / 64 = x / 64
  · rw [if_pos h, btz_one1 hx hq, h]
    constructor
    · rintro (y | y)
      · exact Or.inl y
      · exact Or.inr (by omega)
    · rintro (y | y)
      · exact Or.inl y
      · exact Or.inr (by rw [y])
  · rw [if_neg h]
    constructor
    · exact fun y => Or.inl y
    · rintro (y | y)
      · exact y
      · exact absurd (by rw [y]) h
end Bits1
/-- the row that is opened next: the first in the queue that was not yet -/
def OPW (U V : Ud) (ix rx qu : Nat → Nat) (hd hh : Nat) : Prop := (V.2.1 147 15 = -1 ∧ (∀ i, hd ≤ i → i < hh → ¬ ix (rx (qu i)) = 0) ∧ V.2.2.1 147 10 = U.2.2.1 147 10) ∨ ∃ k, hh = k + 1 ∧ hd ≤ k ∧ ix (rx (qu k)) = 0 ∧ V.2.1 147 15 = nI (rx (qu k)) ∧ (∀ i, hd ≤ i → i < k → ¬ ix (rx (qu i)) = 0) ∧ V.2.2.1 147 10 = ((U.2.2.1 147 10).1, fun j => if j = rx (qu k) * 7 + 1 then 1 else (U.2.2.1 147 10).2 j)
section OpenNext
variable {H : mu_H} {U V : Ud} {m d wn hd tl c T R pg : Nat} {C : Nat → Nat} {rx qu ix : Nat → Nat}
def F316 : Uf := ⟨[], [(147, 14), (147, 15), (147, 16), (147, 17), (147, 19)], [(147, 10)], [], [], false⟩
def F316r : Uf := ⟨[], [(147, 14), (147, 15), (147, 16), (147, 17), (147, 19)], [(147, 10)], [], [149], false⟩
def F316b : Uf := ⟨[], [], [], [], [149], false⟩
/-- PathProver$Graph.openNext()V -/
abbrev mu_m316 : ev_M := (2, none, [], ev_b316)
theorem mu_g316 : mu_good mu_m316 := mu_goodk ev_k316
theorem gr_open0 (h : um m H) (e : ud m H = U) (hw : U.2.1 99 12 = nI wn) (hwb : wn ≤ 256) (hcur : U.2.1 147 16 = nI c) (hc : c ≤ wn) (hz : ∀ i, i < c → U.2.2.2.2.1 150 i = 0) (hhead : U.2.1 147 17 = nI hd) (htail : U.2.1 147 18 = nI tl) (hht : hd ≤ tl) (hq12 : tl ≤ (U.2.2.1 147 12).1) (hq12b : (U.2.2.1 147 12).1 ≤ 16777216) (hqu : ∀ i, i < tl → (U.2.2.1 147 12).2 i = nI (qu i) ∧ qu i < T) (hTb : T ≤ 16384) (h6 : T ≤ (U.2.2.1 129 6).1) (h6b : (U.2.2.1 129 6).1 ≤ 16777216) (hrx : ∀ s, s < T → (U.2.2.1 129 6).2 s = nI (rx s) ∧ rx s < R) (hRl : 7 * R ≤ (U.2.2.1 147 10).1) (h10b : (U.2.2.1 147 10).1 ≤ 16777216) (hix : ∀ r, r < R → (U.2.2.1 147 10).2 (r * 7 + 1) = nI (ix r) ∧ ix r < 2147483648) (hgo : U.2.2.2.1 147 8 = none) : mu_TV (mu_D (d + 2)) 316 [.inr (.inr (some 147))] H (fun H1 => um m H1 ∧ ur m C H H1 ∧ uq F316r U (ud m H1) ∧ ((ud m H1).2.1 147 14 = 0 ∧ (ud m H1).2.1 147 19 = -1) ∧ ∃ hh, (hd ≤ hh ∧ hh ≤ tl) ∧ (ud m H1).2.1 147 17 = nI hh ∧ (∃ c, (ud m H1).2.1 147 16 = nI c ∧ c ≤ wn ∧ ∀ i, i < c → U.2.2.2.2.1 150 i = 0) ∧ OPW U (ud m H1) ix rx qu hd hh ∧ ((ud m H1).2.1 147 15 = -1 → hh = tl ∨ ∀ i, i < wn → U.2.2.2.2.1 150 i = 0) ∧ ((ud m H1).2.1 147 15 = -1 → ∀ s, s < 16384 → (bts ((ud m H1).2.2.2.2.1 149) s = true ↔ bts (U.2.2.2.2.1 149) s = true ∨ ∃ i, i < tl ∧ qu i = s)) ∧ (¬ (ud m H1).2.1 147 15 = -1 → (ud m H1).2.2.2.2.1 149 = U.2.2.2.2.1 149)) := by
  refine mu_meth (M := mu_m316) rfl rfl ?_
  refine mw_ht (mu_fn_of (show [0].Nodup by decide)) ?_
  refine mw_go mu_g316 (k := 3) (f1 := (5, [(0, .inr (.inr (some 147)))], [], (mu_si H 147 14 (0 : Int32)))) (C := [mu_is H (some 147) 2]) rfl (show mu_is H (some 147) 2 from (h.1.1.is rfl)) ?_
  obtain ⟨u1, r1, d1⟩ : um m (mu_si H 147 14 (0 : Int32)) ∧ ur m C H (mu_si H 147 14 (0 : Int32)) ∧ ud m (mu_si H 147 14 (0 : Int32)) = (upI U 147 14 (0 : Int32)) := h.sI (C := C) e rfl
  generalize (mu_si H 147 14 (0 : Int32)) = Q1 at u1 r1 d1 ⊢
  have qf1 : uq F316r U (upI U 147 14 (0 : Int32)) := (uq.refl F316r U).I rfl
  have ht1 : ur m C H Q1 := (ur.refl m C H).trans r1
  refine mw_go mu_g316 (k := 3) (f1 := (10, [(0, .inr (.inr (some 147)))], [], (mu_si Q1 147 19 (-1 : Int32)))) (C := [mu_is Q1 (some 147) 2]) rfl (show mu_is Q1 (some 147) 2 from (u1.1.1.is rfl)) ?_
  obtain ⟨u2, r2, d2⟩ : um m (mu_si Q1 147 19 (-1 : Int32)) ∧ ur m C Q1 (mu_si Q1 147 19 (-1 : Int32)) ∧ ud m (mu_si Q1 147 19 (-1 : Int32)) = (upI (upI U 147 14 (0 : Int32)) 147 19 (-1 : Int32)) := u1.sI (C := C) d1 rfl
  generalize (mu_si Q1 147 19 (-1 : Int32)) = Q2 at u2 r2 d2 ⊢
  have qf2 : uq F316r U (upI (upI U 147 14 (0 : Int32)) 147 19 (-1 : Int32)) := qf1.I rfl
  have ht2 : ur m C H Q2 := ht1.trans r2
  refine mw_go mu_g316 (k := 3) (f1 := (15, [(0, .inr (.inr (some 147)))], [], (mu_si Q2 147 15 (-1 : Int32)))) (C := [mu_is Q2 (some 147) 2]) rfl (show mu_is Q2 (some 147) 2 from (u2.1.1.is rfl)) ?_
  obtain ⟨u3, r3, d3⟩ : um m (mu_si Q2 147 15 (-1 : Int32)) ∧ ur m C Q2 (mu_si Q2 147 15 (-1 : Int32)) ∧ ud m (mu_si Q2 147 15 (-1 : Int32)) = (upI (upI (upI U 147 14 (0 : Int32)) 147 19 (-1 : Int32)) 147 15 (-1 : Int32)) := u2.sI (C := C) d2 rfl
  generalize (mu_si Q2 147 15 (-1 : Int32)) = Q3 at u3 r3 d3 ⊢
  have qf3 : uq F316r U (upI (upI (upI U 147 14 (0 : Int32)) 147 19 (-1 : Int32)) 147 15 (-1 : Int32)) := qf2.I rfl
  have ht3 : ur m C H Q3 := ht2.trans r3
  refine mw_down (α := Nat × mu_H) (fun zs => (15, [(0, .inr (.inr (some 147)))], [], zs.2)) (fun zs => tl + 1 - zs.1) (fun zs => um m zs.2 ∧ ur m C H zs.2 ∧ uq F316 U (ud m zs.2) ∧ (hd ≤ zs.1 ∧ zs.1 ≤ tl) ∧ (ud m zs.2).2.1 147 17 = nI zs.1 ∧ ((ud m zs.2).2.1 147 14 = 0 ∧ (ud m zs.2).2.1 147 19 = -1) ∧ (∃ cc, (ud m zs.2).2.1 147 16 = nI cc ∧ cc ≤ wn ∧ ∀ i, i < cc → U.2.2.2.2.1 150 i = 0) ∧ OPW U (ud m zs.2) ix rx qu hd zs.1) (fun zs hza iha => ?_) (hd, Q3) ⟨u3, ht3, by rw [d3]; exact (((uq.refl F316 U).I rfl).I rfl).I rfl, ⟨Nat.le_refl _, hht⟩, by rw [d3]; exact hhead, by rw [d3]; exact ⟨rfl, rfl⟩, by rw [d3]; exact ⟨c, hcur, hc, hz⟩, by rw [d3]; exact Or.inl ⟨rfl, fun i h1 h2 => absurd h2 (by omega), rfl⟩⟩
  obtain ⟨hh, Hsa⟩ := zs
  obtain ⟨ua, hta, zza, hhb, hj17, ⟨hj14, hj19⟩, ⟨cc, hcc0, hcc1, hcc2⟩, hOP⟩ := hza
  have ua : um m Hsa := ua
  have hta : ur m C H Hsa := hta
  have zza : uq F316 U (ud m Hsa) := zza
  have hhb : hd ≤ hh ∧ hh ≤ tl := hhb
  have hj17 : (ud m Hsa).2.1 147 17 = nI hh := hj17
  have hj14 : (ud m Hsa).2.1 147 14 = 0 := hj14
  have hj19 : (ud m Hsa).2.1 147 19 = -1 := hj19
  have hcc0 : (ud m Hsa).2.1 147 16 = nI cc := hcc0
  have hOP : OPW U (ud m Hsa) ix rx qu hd hh := hOP
  obtain ⟨Va, da⟩ : ∃ V, ud m Hsa = V := ⟨_, rfl⟩
  rw [da] at zza hj17 hj14 hj19 hcc0 hOP
  show mu_W _ _ (15, [(0, .inr (.inr (some 147)))], [], Hsa) _
  rcases hOP with ⟨hW1, hW2, hW3⟩ | ⟨k, hk1, hk2, hk3, hk4, hk5, hk6⟩
  · -- A
    refine mw_go mu_g316 (k := 2) (f1 := (19, [(0, .inr (.inr (some 147)))], [.inl (mu_i Hsa 147 17)], Hsa)) (C := [mu_is Hsa (some 147) 2]) rfl (show mu_is Hsa (some 147) 2 from (ua.1.1.is rfl)) ?_
    rw [(show mu_i Hsa 147 17 = (nI hh) from (ud_i (U := Va) (m := m) (P := 147) (j := 17) da rfl).trans hj17)]
    refine mw_go mu_g316 (k := 2) (f1 := (23, [(0, .inr (.inr (some 147)))], [.inl (mu_i Hsa 147 18), .inl (nI hh)], Hsa)) (C := [mu_is Hsa (some 147) 2]) rfl (show mu_is Hsa (some 147) 2 from (ua.1.1.is rfl)) ?_
    rw [(show mu_i Hsa 147 18 = (nI tl) from (ud_i (U := Va) (m := m) (P := 147) (j := 18) da rfl).trans ((zza.i 147 18 rfl).trans htail))]
    refine mw_if (P := (nI hh) < (nI tl)) (a := 26) (b := 96) (fun _ => rfl) trivial (fun h4 => ?_) (fun h4 => ?_)
    · -- 26: (nI hh) < (nI tl)
      have nh4 : hh < tl := (nI_ltI (by omega) (by omega)).mp (show nI hh < nI tl from h4)
      refine mw_go mu_g316 (k := 2) (f1 := (30, [(0, .inr (.inr (some 147)))], [.inl (mu_i Hsa 147 15)], Hsa)) (C := [mu_is Hsa (some 147) 2]) rfl (show mu_is Hsa (some 147) 2 from (ua.1.1.is rfl)) ?_
      rw [(show mu_i Hsa 147 15 = (-1 : Int32) from (ud_i (U := Va) (m := m) (P := 147) (j := 15) da rfl).trans hW1)]
      refine mw_if (P := (-1 : Int32) < 0) (a := 33) (b := 96) (fun _ => rfl) trivial (fun h5 => ?_) (fun h5 => absurd (by decide) h5)
      refine mw_go mu_g316 (k := 3) (f1 := (38, [(0, .inr (.inr (some 147)))], [.inr (.inr (mu_r Hsa 147 4)), .inr (.inr (some 147))], Hsa)) (C := [mu_is Hsa (some 147) 2]) rfl (show mu_is Hsa (some 147) 2 from (ua.1.1.is rfl)) ?_
      rw [(ua.1.1.r (p := 147) (j := 4) (q := 150) rfl)]
      refine mw_cI (fun _ => rfl) (show mu_is Hsa (some 147) 2 from (ua.1.1.is rfl)) (gr_emptied150 (d := d) (C := C) (wn := wn) (c := cc) ua da ((show (Va.2.1 99 12) = (U.2.1 99 12) from (zza.i 99 12 rfl)).trans hw) hwb (hcc0) hcc1 (fun i hi => by rw [(show (Va.2.2.2.2.1 150) = (U.2.2.2.2.1 150) from (zza.l 150 rfl))]; exact hcc2 i hi)) (fun x6 Q6 q6 => ?_)
      rcases q6 with ⟨u6, r6, z6, x, hx1, hx2, hx16, hx0, ⟨rfl, hx3, hx4⟩ | ⟨rfl, hx3⟩⟩
      · -- (0 : Int32)
        have ht6 : ur m C H Q6 := hta.trans r6
        obtain ⟨V6, d6⟩ : ∃ V, ud m Q6 = V := ⟨_, rfl⟩
        rw [d6] at z6 hx16
        have qf6 : uq F316r U V6 := ((uq.refl F316r U).tr zza rfl).tr z6 rfl
        refine mw_if (P := (0 : Int32) = 0) (a := 44) (b := 96) (fun _ => rfl) trivial (fun h7 => ?_) (fun h7 => absurd (by decide) h7)
        have hqk := hqu hh (by omega)
        have hrk := (hrx (qu hh) hqk.2).2
        have hrb := (hix _ hrk).2
        have hx0U : ∀ i, i < x → U.2.2.2.2.1 150 i = 0 := fun i hi => by have y := hx0 i hi; rw [(show Va.2.2.2.2.1 150 = U.2.2.2.2.1 150 from (zza.l 150 rfl))] at y; exact y
        refine mw_go mu_g316 (k := 2) (f1 := (48, [(0, .inr (.inr (some 147)))], [.inr (.inr (mu_r Q6 147 1))], Q6)) (C := [mu_is Q6 (some 147) 2]) rfl (show mu_is Q6 (some 147) 2 from (u6.1.1.is rfl)) ?_
        rw [(u6.1.1.r (p := 147) (j := 1) (q := 129) rfl)]
        refine mw_go mu_g316 (k := 1) (f1 := (51, [(0, .inr (.inr (some 147)))], [.inr (.inr (mu_r Q6 129 6))], Q6)) (C := [mu_is Q6 (some 129) 9]) rfl (show mu_is Q6 (some 129) 9 from (u6.1.1.is rfl)) ?_
        rw [(show mu_r Q6 129 6 = (U.2.2.2.1 129 6) from (ud_q (U := V6) (m := m) (P := 129) (j := 6) d6 rfl).trans ((z6.r 129 6 rfl).trans (zza.r 129 6 rfl)))]
        refine mw_go mu_g316 (k := 2) (f1 := (55, [(0, .inr (.inr (some 147)))], [.inr (.inr (mu_r Q6 147 12)), .inr (.inr (U.2.2.2.1 129 6))], Q6)) (C := [mu_is Q6 (some 147) 2]) rfl (show mu_is Q6 (some 147) 2 from (u6.1.1.is rfl)) ?_
        rw [(show mu_r Q6 147 12 = (U.2.2.2.1 147 12) from (ud_q (U := V6) (m := m) (P := 147) (j := 12) d6 rfl).trans ((z6.r 147 12 rfl).trans (zza.r 147 12 rfl)))]
        refine mw_go mu_g316 (k := 2) (f1 := (59, [(0, .inr (.inr (some 147)))], [.inl (mu_i Q6 147 17), .inr (.inr (U.2.2.2.1 147 12)), .inr (.inr (U.2.2.2.1 129 6))], Q6)) (C := [mu_is Q6 (some 147) 2]) rfl (show mu_is Q6 (some 147) 2 from (u6.1.1.is rfl)) ?_
        rw [(show mu_i Q6 147 17 = (nI hh) from (ud_i (U := V6) (m := m) (P := 147) (j := 17) d6 rfl).trans ((z6.i 147 17 rfl).trans hj17))]
        refine mw_go mu_g316 (k := 1) (f1 := (60, [(0, .inr (.inr (some 147)))], [.inl (mu_i Q6 (mu_p (U.2.2.2.1 147 12)) (nI hh).toNatClampNeg), .inr (.inr (U.2.2.2.1 129 6))], Q6)) (C := [mu_isr Q6 (U.2.2.2.1 147 12) 100, vp_in (nI hh) (mu_n Q6 (mu_p (U.2.2.2.1 147 12)))]) rfl (show (mu_isr Q6 (U.2.2.2.1 147 12) 100) ∧ (vp_in (nI hh) (mu_n Q6 (mu_p (U.2.2.2.1 147 12)))) from ⟨((u6.iA d6 rfl rfl (show V6.2.2.2.1 147 12 = (U.2.2.2.1 147 12) from ((z6.r 147 12 rfl).trans (zza.r 147 12 rfl))))).r, (u6.vA (i := hh) d6 rfl rfl (show V6.2.2.2.1 147 12 = (U.2.2.2.1 147 12) from ((z6.r 147 12 rfl).trans (zza.r 147 12 rfl))) (show (V6.2.2.1 147 12).1 = (U.2.2.1 147 12).1 from ((z6.n 147 12 rfl).trans (zza.n 147 12 rfl))) (by omega) (by omega))⟩) ?_
        rw [(show (mu_i Q6 (mu_p (U.2.2.2.1 147 12)) (nI hh).toNatClampNeg) = (nI (qu hh)) from ((congrArg (mu_i Q6 (mu_p (U.2.2.2.1 147 12))) (show (nI hh).toNatClampNeg = hh from nI_clamp (by omega))).trans (u6.gA d6 rfl rfl (show V6.2.2.2.1 147 12 = (U.2.2.2.1 147 12) from ((z6.r 147 12 rfl).trans (zza.r 147 12 rfl))))).trans ((congrArg (fun z => z.2 hh) (show V6.2.2.1 147 12 = (U.2.2.1 147 12) from ((z6.a 147 12 rfl).trans (zza.a 147 12 rfl)))).trans (hqu hh (by omega)).1))]
        refine mw_go mu_g316 (k := 1) (f1 := (61, [(0, .inr (.inr (some 147)))], [.inl (mu_i Q6 (mu_p (U.2.2.2.1 129 6)) (nI (qu hh)).toNatClampNeg)], Q6)) (C := [mu_isr Q6 (U.2.2.2.1 129 6) 100, vp_in (nI (qu hh)) (mu_n Q6 (mu_p (U.2.2.2.1 129 6)))]) rfl (show (mu_isr Q6 (U.2.2.2.1 129 6) 100) ∧ (vp_in (nI (qu hh)) (mu_n Q6 (mu_p (U.2.2.2.1 129 6)))) from ⟨((u6.iA d6 rfl rfl (show V6.2.2.2.1 129 6 = (U.2.2.2.1 129 6) from ((z6.r 129 6 rfl).trans (zza.r 129 6 rfl))))).r, (u6.vA (i := qu hh) d6 rfl rfl (show V6.2.2.2.1 129 6 = (U.2.2.2.1 129 6) from ((z6.r 129 6 rfl).trans (zza.r 129 6 rfl))) (show (V6.2.2.1 129 6).1 = (U.2.2.1 129 6).1 from ((z6.n 129 6 rfl).trans (zza.n 129 6 rfl))) (by omega) (by omega))⟩) ?_
        rw [(show (mu_i Q6 (mu_p (U.2.2.2.1 129 6)) (nI (qu hh)).toNatClampNeg) = (nI (rx (qu hh))) from ((congrArg (mu_i Q6 (mu_p (U.2.2.2.1 129 6))) (show (nI (qu hh)).toNatClampNeg = qu hh from nI_clamp (by omega))).trans (u6.gA d6 rfl rfl (show V6.2.2.2.1 129 6 = (U.2.2.2.1 129 6) from ((z6.r 129 6 rfl).trans (zza.r 129 6 rfl))))).trans ((congrArg (fun z => z.2 (qu hh)) (show V6.2.2.1 129 6 = (U.2.2.1 129 6) from ((z6.a 129 6 rfl).trans (zza.a 129 6 rfl)))).trans (hrx (qu hh) (hqu _ (by omega)).2).1))]
        refine mw_go mu_g316 (k := 4) (f1 := (65, [(1, .inl (nI (rx (qu hh)))), (0, .inr (.inr (some 147)))], [.inl (1 : Int32), .inl (nI (rx (qu hh))), .inr (.inr (some 147))], Q6)) (C := []) rfl trivial ?_
        refine mw_cIe (fun _ => rfl) (show mu_is Q6 (some 147) 2 from (u6.1.1.is rfl)) (gr_node (d := d) (r := rx (qu hh)) (c := 1) u6 d6 (by rw [(show (V6.2.2.1 147 10).1 = (U.2.2.1 147 10).1 from ((z6.n 147 10 rfl).trans (zza.n 147 10 rfl)))]; omega) (by rw [(show (V6.2.2.1 147 10).1 = (U.2.2.1 147 10).1 from ((z6.n 147 10 rfl).trans (zza.n 147 10 rfl)))]; omega)) ?_
        rw [show (V6.2.2.1 147 10).2 ((rx (qu hh)) * 7 + 1) = nI (ix (rx (qu hh))) from by rw [(show V6.2.2.1 147 10 = U.2.2.1 147 10 from ((z6.a 147 10 rfl)).trans hW3)]; exact (hix _ hrk).1]
        refine mw_if (P := (nI (ix (rx (qu hh)))) = 0) (a := 71) (b := 83) (fun _ => rfl) trivial (fun h9 => ?_) (fun h9 => ?_)
        · -- 71: (nI (ix (rx (qu hh)))) = 0
          have nh9 : (ix (rx (qu hh))) = 0 := (nI_eq (by omega) (by omega)).mp (show nI (ix (rx (qu hh))) = nI 0 from h9)
          have hix0 : ix (rx (qu hh)) = 0 := by omega
          refine mw_go mu_g316 (k := 4) (f1 := (75, [(1, .inl (nI (rx (qu hh)))), (0, .inr (.inr (some 147)))], [.inl (1 : Int32), .inl (1 : Int32), .inl (nI (rx (qu hh))), .inr (.inr (some 147))], Q6)) (C := []) rfl trivial ?_
          refine mw_cV (fun _ => rfl) (show mu_is Q6 (some 147) 2 from (u6.1.1.is rfl)) (gr_set (d := d) (C := C) (r := rx (qu hh)) (c := 1) (v := (1 : Int32)) u6 d6 (by rw [(show (V6.2.2.1 147 10).1 = (U.2.2.1 147 10).1 from ((z6.n 147 10 rfl).trans (zza.n 147 10 rfl)))]; omega) (by rw [(show (V6.2.2.1 147 10).1 = (U.2.2.1 147 10).1 from ((z6.n 147 10 rfl).trans (zza.n 147 10 rfl)))]; omega)) (fun Q10 q10 => ?_)
          obtain ⟨u10, r10, d10⟩ := q10
          have ht10 : ur m C H Q10 := ht6.trans r10
          have qf10 : uq F316r U (upA V6 147 10 ((rx (qu hh)) * 7 + 1) (1 : Int32)) := qf6.A rfl
          refine mw_go mu_g316 (k := 3) (f1 := (83, [(1, .inl (nI (rx (qu hh)))), (0, .inr (.inr (some 147)))], [], (mu_si Q10 147 15 (nI (rx (qu hh)))))) (C := [mu_is Q10 (some 147) 2]) rfl (show mu_is Q10 (some 147) 2 from (u10.1.1.is rfl)) ?_
          obtain ⟨u11, r11, d11⟩ : um m (mu_si Q10 147 15 (nI (rx (qu hh)))) ∧ ur m C Q10 (mu_si Q10 147 15 (nI (rx (qu hh)))) ∧ ud m (mu_si Q10 147 15 (nI (rx (qu hh)))) = (upI (upA V6 147 10 ((rx (qu hh)) * 7 + 1) (1 : Int32)) 147 15 (nI (rx (qu hh)))) := u10.sI (C := C) d10 rfl
          generalize (mu_si Q10 147 15 (nI (rx (qu hh)))) = Q11 at u11 r11 d11 ⊢
          have qf11 : uq F316r U (upI (upA V6 147 10 ((rx (qu hh)) * 7 + 1) (1 : Int32)) 147 15 (nI (rx (qu hh)))) := qf10.I rfl
          have ht11 : ur m C H Q11 := ht10.trans r11
          refine mw_go mu_g316 (k := 3) (f1 := (88, [(1, .inl (nI (rx (qu hh)))), (0, .inr (.inr (some 147)))], [.inl (mu_i Q11 147 17), .inr (.inr (some 147))], Q11)) (C := [mu_is Q11 (some 147) 2]) rfl (show mu_is Q11 (some 147) 2 from (u11.1.1.is rfl)) ?_
          rw [(show mu_i Q11 147 17 = (nI hh) from (ud_i (U := (upI (upA V6 147 10 ((rx (qu hh)) * 7 + 1) (1 : Int32)) 147 15 (nI (rx (qu hh))))) (m := m) (P := 147) (j := 17) d11 rfl).trans ((z6.i 147 17 rfl).trans hj17))]
          refine mw_go mu_g316 (k := 2) (f1 := (90, [(1, .inl (nI (rx (qu hh)))), (0, .inr (.inr (some 147)))], [.inl ((nI hh) + (1 : Int32)), .inr (.inr (some 147))], Q11)) (C := []) rfl trivial ?_
          rw [(show ((nI hh) + (1 : Int32)) = (nI (hh + 1)) from (nI_add hh 1))]
          refine mw_go mu_g316 (k := 1) (f1 := (93, [(1, .inl (nI (rx (qu hh)))), (0, .inr (.inr (some 147)))], [], (mu_si Q11 147 17 (nI (hh + 1))))) (C := [mu_is Q11 (some 147) 2]) rfl (show mu_is Q11 (some 147) 2 from (u11.1.1.is rfl)) ?_
          obtain ⟨u12, r12, d12⟩ : um m (mu_si Q11 147 17 (nI (hh + 1))) ∧ ur m C Q11 (mu_si Q11 147 17 (nI (hh + 1))) ∧ ud m (mu_si Q11 147 17 (nI (hh + 1))) = (upI (upI (upA V6 147 10 ((rx (qu hh)) * 7 + 1) (1 : Int32)) 147 15 (nI (rx (qu hh)))) 147 17 (nI (hh + 1))) := u11.sI (C := C) d11 rfl
          generalize (mu_si Q11 147 17 (nI (hh + 1))) = Q12 at u12 r12 d12 ⊢
          have qf12 : uq F316r U (upI (upI (upA V6 147 10 ((rx (qu hh)) * 7 + 1) (1 : Int32)) 147 15 (nI (rx (qu hh)))) 147 17 (nI (hh + 1))) := qf11.I rfl
          have ht12 : ur m C H Q12 := ht11.trans r12
          refine mw_go mu_g316 (k := 1) (f1 := (15, [(1, .inl (nI (rx (qu hh)))), (0, .inr (.inr (some 147)))], [], Q12)) (C := []) rfl trivial ?_
          exact mw_sub (by simp) (iha (hh + 1, Q12) ⟨u12, ht12, by rw [d12]; exact ((((zza.tr z6 rfl).A rfl).I rfl).I rfl), by show hd ≤ hh + 1 ∧ hh + 1 ≤ tl; omega, by rw [d12]; exact rfl, by rw [d12]; exact ⟨((z6.i 147 14 rfl).trans hj14), ((z6.i 147 19 rfl).trans hj19)⟩, by rw [d12]; exact ⟨x, hx16, hx2, hx0U⟩, by rw [d12]; exact Or.inr ⟨hh, rfl, hhb.1, hix0, rfl, fun i h1 h2 => hW2 i h1 h2, (by show ((V6.2.2.1 147 10).1, fun j => if j = rx (qu hh) * 7 + 1 then (1 : Int32) else (V6.2.2.1 147 10).2 j) = _; rw [(show V6.2.2.1 147 10 = U.2.2.1 147 10 from ((z6.a 147 10 rfl)).trans hW3)])⟩⟩ (by show tl + 1 - (hh + 1) < tl + 1 - hh; omega))
        · -- 83: not (nI (ix (rx (qu hh)))) = 0
          have nh9 : ¬ (ix (rx (qu hh))) = 0 := fun z => h9 (show nI (ix (rx (qu hh))) = nI 0 from (nI_eq (by omega) (by omega)).mpr z)
          have hix0 : ¬ ix (rx (qu hh)) = 0 := by omega
          refine mw_go mu_g316 (k := 3) (f1 := (88, [(1, .inl (nI (rx (qu hh)))), (0, .inr (.inr (some 147)))], [.inl (mu_i Q6 147 17), .inr (.inr (some 147))], Q6)) (C := [mu_is Q6 (some 147) 2]) rfl (show mu_is Q6 (some 147) 2 from (u6.1.1.is rfl)) ?_
          rw [(show mu_i Q6 147 17 = (nI hh) from (ud_i (U := V6) (m := m) (P := 147) (j := 17) d6 rfl).trans ((z6.i 147 17 rfl).trans hj17))]
          refine mw_go mu_g316 (k := 2) (f1 := (90, [(1, .inl (nI (rx (qu hh)))), (0, .inr (.inr (some 147)))], [.inl ((nI hh) + (1 : Int32)), .inr (.inr (some 147))], Q6)) (C := []) rfl trivial ?_
          rw [(show ((nI hh) + (1 : Int32)) = (nI (hh + 1)) from (nI_add hh 1))]
          refine mw_go mu_g316 (k := 1) (f1 := (93, [(1, .inl (nI (rx (qu hh)))), (0, .inr (.inr (some 147)))], [], (mu_si Q6 147 17 (nI (hh + 1))))) (C := [mu_is Q6 (some 147) 2]) rfl (show mu_is Q6 (some 147) 2 from (u6.1.1.is rfl)) ?_
          obtain ⟨u13, r13, d13⟩ : um m (mu_si Q6 147 17 (nI (hh + 1))) ∧ ur m C Q6 (mu_si Q6 147 17 (nI (hh + 1))) ∧ ud m (mu_si Q6 147 17 (nI (hh + 1))) = (upI V6 147 17 (nI (hh + 1))) := u6.sI (C := C) d6 rfl
          generalize (mu_si Q6 147 17 (nI (hh + 1))) = Q13 at u13 r13 d13 ⊢
          have qf13 : uq F316r U (upI V6 147 17 (nI (hh + 1))) := qf6.I rfl
          have ht13 : ur m C H Q13 := ht6.trans r13
          refine mw_go mu_g316 (k := 1) (f1 := (15, [(1, .inl (nI (rx (qu hh)))), (0, .inr (.inr (some 147)))], [], Q13)) (C := []) rfl trivial ?_
          exact mw_sub (by simp) (iha (hh + 1, Q13) ⟨u13, ht13, by rw [d13]; exact ((zza.tr z6 rfl).I rfl), by show hd ≤ hh + 1 ∧ hh + 1 ≤ tl; omega, by rw [d13]; exact rfl, by rw [d13]; exact ⟨((z6.i 147 14 rfl).trans hj14), ((z6.i 147 19 rfl).trans hj19)⟩, by rw [d13]; exact ⟨x, hx16, hx2, hx0U⟩, by rw [d13]; exact Or.inl ⟨((z6.i 147 15 rfl).trans hW1), fun i h1 h2 => by by_cases y : i = hh; (rw [y]; exact hix0); (exact hW2 i h1 (by omega)), ((z6.a 147 10 rfl)).trans hW3⟩⟩ (by show tl + 1 - (hh + 1) < tl + 1 - hh; omega))
      · -- (1 : Int32)
        have ht6 : ur m C H Q6 := hta.trans r6
        obtain ⟨V6, d6⟩ : ∃ V, ud m Q6 = V := ⟨_, rfl⟩
        rw [d6] at z6 hx16
        have qf6 : uq F316r U V6 := ((uq.refl F316r U).tr zza rfl).tr z6 rfl
        refine mw_if (P := (1 : Int32) = 0) (a := 44) (b := 96) (fun _ => rfl) trivial (fun h14 => absurd h14 (by decide)) (fun h14 => ?_)
        refine mw_go mu_g316 (k := 2) (f1 := (100, [(0, .inr (.inr (some 147)))], [.inl (mu_i Q6 147 15)], Q6)) (C := [mu_is Q6 (some 147) 2]) rfl (show mu_is Q6 (some 147) 2 from (u6.1.1.is rfl)) ?_
        rw [(show mu_i Q6 147 15 = (-1 : Int32) from (ud_i (U := V6) (m := m) (P := 147) (j := 15) d6 rfl).trans ((z6.i 147 15 rfl).trans hW1))]
        refine mw_if (P := (-1 : Int32) < 0) (a := 103) (b := 151) (fun _ => rfl) trivial (fun h15 => ?_) (fun h15 => absurd (by decide) h15)
        refine mw_go mu_g316 (k := 2) (f1 := (107, [(0, .inr (.inr (some 147)))], [.inr (.inr (mu_r Q6 147 8))], Q6)) (C := [mu_is Q6 (some 147) 2]) rfl (show mu_is Q6 (some 147) 2 from (u6.1.1.is rfl)) ?_
        rw [(show mu_r Q6 147 8 = none from (ud_q (U := V6) (m := m) (P := 147) (j := 8) d6 rfl).trans ((z6.r 147 8 rfl).trans ((zza.r 147 8 rfl).trans hgo)))]
        refine mw_if (P := none = none) (a := 110) (b := 151) (fun _ => rfl) (show none ≠ some 3000000 from (fun z => by cases z)) (fun _ => ?_) (fun h16 => absurd rfl h16)
        refine mw_go mu_g316 (k := 2) (f1 := (112, [(1, .inl (0 : Int32)), (0, .inr (.inr (some 147)))], [], Q6)) (C := []) rfl trivial ?_
        show mu_W _ _ (112, [(1, .inl (nI 0)), (0, .inr (.inr (some 147)))], [], Q6) _
        refine mw_sub (L' := [(1, .inl (nI 0)), (0, .inr (.inr (some 147)))]) (by simp) ?_
        refine mw_down (α := Nat × mu_H) (fun zs => (112, [(1, .inl (nI zs.1)), (0, .inr (.inr (some 147)))], [], zs.2)) (fun zs => tl - zs.1) (fun zs => um m zs.2 ∧ ur m C H zs.2 ∧ (uq F316b V6 (ud m zs.2)) ∧ (zs.1 ≤ tl) ∧ (∀ s, s < 16384 → (bts ((ud m zs.2).2.2.2.2.1 149) s = true ↔ bts (U.2.2.2.2.1 149) s = true ∨ ∃ i, i < zs.1 ∧ qu i = s))) (fun zs hzb ihb => ?_) (0, Q6) ⟨u6, ht6, (show uq F316b V6 (ud m Q6) from by rw [d6]; exact uq.refl _ _), (show 0 ≤ tl from (by omega)), (show ∀ s, s < 16384 → (bts ((ud m Q6).2.2.2.2.1 149) s = true ↔ bts (U.2.2.2.2.1 149) s = true ∨ ∃ i, i < 0 ∧ qu i = s) from by rw [d6]; exact (fun s hs => by rw [(show V6.2.2.2.2.1 149 = U.2.2.2.2.1 149 from ((z6.l 149 rfl).trans (zza.l 149 rfl)))]; exact ⟨Or.inl, fun y => y.elim id (fun ⟨i, hi, _⟩ => absurd hi (Nat.not_lt_zero i))⟩))⟩
        obtain ⟨y, Hsb⟩ := zs
        obtain ⟨ub, htb, db, hy, hre⟩ := hzb
        have ub : um m Hsb := ub
        have htb : ur m C H Hsb := htb
        have zzb : uq F316b V6 (ud m Hsb) := db
        have hy : y ≤ tl := hy
        have hre : ∀ s, s < 16384 → (bts ((ud m Hsb).2.2.2.2.1 149) s = true ↔ bts (U.2.2.2.2.1 149) s = true ∨ ∃ i, i < y ∧ qu i = s) := hre
        obtain ⟨Vb, db⟩ : ∃ V, ud m Hsb = V := ⟨_, rfl⟩
        rw [db] at zzb hre
        have qfb : uq F316r U Vb := qf6.tr zzb rfl
        show mu_W _ _ (112, [(1, .inl (nI y)), (0, .inr (.inr (some 147)))], [], Hsb) _
        refine mw_go mu_g316 (k := 3) (f1 := (117, [(1, .inl (nI y)), (0, .inr (.inr (some 147)))], [.inl (mu_i Hsb 147 18), .inl (nI y)], Hsb)) (C := [mu_is Hsb (some 147) 2]) rfl (show mu_is Hsb (some 147) 2 from (ub.1.1.is rfl)) ?_
        rw [(show mu_i Hsb 147 18 = (nI tl) from (ud_i (U := Vb) (m := m) (P := 147) (j := 18) db rfl).trans ((zzb.i 147 18 rfl).trans ((z6.i 147 18 rfl).trans ((zza.i 147 18 rfl).trans htail))))]
        refine mw_if (P := (nI y) < (nI tl)) (a := 120) (b := 151) (fun _ => rfl) trivial (fun h17 => ?_) (fun h17 => ?_)
        · -- 120: (nI y) < (nI tl)
          have nh17 : y < tl := (nI_ltI (by omega) (by omega)).mp (show nI y < nI tl from h17)
          have hqy := (hqu y (by omega)).2
          refine mw_go mu_g316 (k := 2) (f1 := (124, [(1, .inl (nI y)), (0, .inr (.inr (some 147)))], [.inr (.inr (mu_r Hsb 147 3))], Hsb)) (C := [mu_is Hsb (some 147) 2]) rfl (show mu_is Hsb (some 147) 2 from (ub.1.1.is rfl)) ?_
          rw [(ub.1.1.r (p := 147) (j := 3) (q := 149) rfl)]
          refine mw_go mu_g316 (k := 2) (f1 := (128, [(1, .inl (nI y)), (0, .inr (.inr (some 147)))], [.inr (.inr (mu_r Hsb 147 12)), .inr (.inr (some 149))], Hsb)) (C := [mu_is Hsb (some 147) 2]) rfl (show mu_is Hsb (some 147) 2 from (ub.1.1.is rfl)) ?_
          rw [(show mu_r Hsb 147 12 = (U.2.2.2.1 147 12) from (ud_q (U := Vb) (m := m) (P := 147) (j := 12) db rfl).trans ((zzb.r 147 12 rfl).trans ((z6.r 147 12 rfl).trans (zza.r 147 12 rfl))))]
          refine mw_go mu_g316 (k := 2) (f1 := (130, [(1, .inl (nI y)), (0, .inr (.inr (some 147)))], [.inl (mu_i Hsb (mu_p (U.2.2.2.1 147 12)) (nI y).toNatClampNeg), .inr (.inr (some 149))], Hsb)) (C := [mu_isr Hsb (U.2.2.2.1 147 12) 100, vp_in (nI y) (mu_n Hsb (mu_p (U.2.2.2.1 147 12)))]) rfl (show (mu_isr Hsb (U.2.2.2.1 147 12) 100) ∧ (vp_in (nI y) (mu_n Hsb (mu_p (U.2.2.2.1 147 12)))) from ⟨((ub.iA db rfl rfl (show Vb.2.2.2.1 147 12 = (U.2.2.2.1 147 12) from ((zzb.r 147 12 rfl).trans ((z6.r 147 12 rfl).trans (zza.r 147 12 rfl)))))).r, (ub.vA (i := y) db rfl rfl (show Vb.2.2.2.1 147 12 = (U.2.2.2.1 147 12) from ((zzb.r 147 12 rfl).trans ((z6.r 147 12 rfl).trans (zza.r 147 12 rfl)))) (show (Vb.2.2.1 147 12).1 = (U.2.2.1 147 12).1 from ((zzb.n 147 12 rfl).trans ((z6.n 147 12 rfl).trans (zza.n 147 12 rfl)))) (by omega) (by omega))⟩) ?_
          rw [(show (mu_i Hsb (mu_p (U.2.2.2.1 147 12)) (nI y).toNatClampNeg) = (nI (qu y)) from ((congrArg (mu_i Hsb (mu_p (U.2.2.2.1 147 12))) (show (nI y).toNatClampNeg = y from nI_clamp (by omega))).trans (ub.gA db rfl rfl (show Vb.2.2.2.1 147 12 = (U.2.2.2.1 147 12) from ((zzb.r 147 12 rfl).trans ((z6.r 147 12 rfl).trans (zza.r 147 12 rfl)))))).trans ((congrArg (fun z => z.2 y) (show Vb.2.2.1 147 12 = (U.2.2.1 147 12) from ((zzb.a 147 12 rfl).trans ((z6.a 147 12 rfl).trans (zza.a 147 12 rfl))))).trans (hqu y (by omega)).1))]
          refine mw_go mu_g316 (k := 2) (f1 := (133, [(1, .inl (nI y)), (0, .inr (.inr (some 147)))], [.inl ((nI (qu y)) >>> ((6 : Int32) &&& 31)), .inr (.inr (some 149))], Hsb)) (C := []) rfl trivial ?_
          rw [(show ((nI (qu y)) >>> ((6 : Int32) &&& 31)) = (nI ((qu y) / 64)) from (nI_shr6 (a := qu y) (by omega)))]
          refine mw_go mu_g316 (k := 2) (f1 := (135, [(1, .inl (nI y)), (0, .inr (.inr (some 147)))], [.inr (.inl (mu_l Hsb 149 (nI ((qu y) / 64)).toNatClampNeg)), .inl (nI ((qu y) / 64)), .inr (.inr (some 149))], Hsb)) (C := [mu_isr Hsb (some 149) 102, vp_in (nI ((qu y) / 64)) (mu_n Hsb 149)]) rfl (show (mu_isr Hsb (some 149) 102) ∧ (vp_in (nI ((qu y) / 64)) (mu_n Hsb 149)) from ⟨((ub.1.1.a (p := 149) (x := (102, 256)) rfl).1).r, (by rw [show mu_n Hsb 149 = 256 from (ub.1.1.a (p := 149) (x := (102, 256)) rfl).2]; exact vp_in_nI (n := (qu y) / 64) (by omega) (by decide))⟩) ?_
          rw [(show (mu_l Hsb 149 (nI ((qu y) / 64)).toNatClampNeg) = (Vb.2.2.2.2.1 149) ((qu y) / 64) from (congrArg (mu_l Hsb 149) (show (nI ((qu y) / 64)).toNatClampNeg = (qu y) / 64 from nI_clamp (by omega))).trans ((ud_l (m := m) (p := 149) (i := ((qu y) / 64)) db rfl).trans (congrFun (show Vb.2.2.2.2.1 149 = (Vb.2.2.2.2.1 149) from rfl) ((qu y) / 64))))]
          refine mw_go mu_g316 (k := 3) (f1 := (140, [(1, .inl (nI y)), (0, .inr (.inr (some 147)))], [.inr (.inr (mu_r Hsb 147 12)), .inr (.inl (1 : Int64)), .inr (.inl ((Vb.2.2.2.2.1 149) ((qu y) / 64))), .inl (nI ((qu y) / 64)), .inr (.inr (some 149))], Hsb)) (C := [mu_is Hsb (some 147) 2]) rfl (show mu_is Hsb (some 147) 2 from (ub.1.1.is rfl)) ?_
          rw [(show mu_r Hsb 147 12 = (U.2.2.2.1 147 12) from (ud_q (U := Vb) (m := m) (P := 147) (j := 12) db rfl).trans ((zzb.r 147 12 rfl).trans ((z6.r 147 12 rfl).trans (zza.r 147 12 rfl))))]
          refine mw_go mu_g316 (k := 2) (f1 := (142, [(1, .inl (nI y)), (0, .inr (.inr (some 147)))], [.inl (mu_i Hsb (mu_p (U.2.2.2.1 147 12)) (nI y).toNatClampNeg), .inr (.inl (1 : Int64)), .inr (.inl ((Vb.2.2.2.2.1 149) ((qu y) / 64))), .inl (nI ((qu y) / 64)), .inr (.inr (some 149))], Hsb)) (C := [mu_isr Hsb (U.2.2.2.1 147 12) 100, vp_in (nI y) (mu_n Hsb (mu_p (U.2.2.2.1 147 12)))]) rfl (show (mu_isr Hsb (U.2.2.2.1 147 12) 100) ∧ (vp_in (nI y) (mu_n Hsb (mu_p (U.2.2.2.1 147 12)))) from ⟨((ub.iA db rfl rfl (show Vb.2.2.2.1 147 12 = (U.2.2.2.1 147 12) from ((zzb.r 147 12 rfl).trans ((z6.r 147 12 rfl).trans (zza.r 147 12 rfl)))))).r, (ub.vA (i := y) db rfl rfl (show Vb.2.2.2.1 147 12 = (U.2.2.2.1 147 12) from ((zzb.r 147 12 rfl).trans ((z6.r 147 12 rfl).trans (zza.r 147 12 rfl)))) (show (Vb.2.2.1 147 12).1 = (U.2.2.1 147 12).1 from ((zzb.n 147 12 rfl).trans ((z6.n 147 12 rfl).trans (zza.n 147 12 rfl)))) (by omega) (by omega))⟩) ?_
          rw [(show (mu_i Hsb (mu_p (U.2.2.2.1 147 12)) (nI y).toNatClampNeg) = (nI (qu y)) from ((congrArg (mu_i Hsb (mu_p (U.2.2.2.1 147 12))) (show (nI y).toNatClampNeg = y from nI_clamp (by omega))).trans (ub.gA db rfl rfl (show Vb.2.2.2.1 147 12 = (U.2.2.2.1 147 12) from ((zzb.r 147 12 rfl).trans ((z6.r 147 12 rfl).trans (zza.r 147 12 rfl)))))).trans ((congrArg (fun z => z.2 y) (show Vb.2.2.1 147 12 = (U.2.2.1 147 12) from ((zzb.a 147 12 rfl).trans ((z6.a 147 12 rfl).trans (zza.a 147 12 rfl))))).trans (hqu y (by omega)).1))]
          refine mw_go mu_g316 (k := 3) (f1 := (145, [(1, .inl (nI y)), (0, .inr (.inr (some 147)))], [], (mu_sl Hsb 149 (nI ((qu y) / 64)).toNatClampNeg (((Vb.2.2.2.2.1 149) ((qu y) / 64)) ||| ((1 : Int64) <<< ((nI (qu y)).toInt64 &&& 63)))))) (C := [mu_is Hsb (some 149) 102, vp_in (nI ((qu y) / 64)) (mu_n Hsb 149)]) rfl (show (mu_is Hsb (some 149) 102) ∧ (vp_in (nI ((qu y) / 64)) (mu_n Hsb 149)) from ⟨((ub.1.1.a (p := 149) (x := (102, 256)) rfl).1), (by rw [show mu_n Hsb 149 = 256 from (ub.1.1.a (p := 149) (x := (102, 256)) rfl).2]; exact vp_in_nI (n := (qu y) / 64) (by omega) (by decide))⟩) ?_
          rw [(show (nI ((qu y) / 64)).toNatClampNeg = (qu y) / 64 from nI_clamp (by omega))]
          obtain ⟨u18, r18, d18⟩ : um m (mu_sl Hsb 149 ((qu y) / 64) (((Vb.2.2.2.2.1 149) ((qu y) / 64)) ||| ((1 : Int64) <<< ((nI (qu y)).toInt64 &&& 63)))) ∧ ur m C Hsb (mu_sl Hsb 149 ((qu y) / 64) (((Vb.2.2.2.2.1 149) ((qu y) / 64)) ||| ((1 : Int64) <<< ((nI (qu y)).toInt64 &&& 63)))) ∧ ud m (mu_sl Hsb 149 ((qu y) / 64) (((Vb.2.2.2.2.1 149) ((qu y) / 64)) ||| ((1 : Int64) <<< ((nI (qu y)).toInt64 &&& 63)))) = (upL Vb 149 ((qu y) / 64) (((Vb.2.2.2.2.1 149) ((qu y) / 64)) ||| ((1 : Int64) <<< ((nI (qu y)).toInt64 &&& 63)))) := ub.sL (C := C) db rfl
          generalize (mu_sl Hsb 149 ((qu y) / 64) (((Vb.2.2.2.2.1 149) ((qu y) / 64)) ||| ((1 : Int64) <<< ((nI (qu y)).toInt64 &&& 63)))) = Q18 at u18 r18 d18 ⊢
          have qf18 : uq F316r U (upL Vb 149 ((qu y) / 64) (((Vb.2.2.2.2.1 149) ((qu y) / 64)) ||| ((1 : Int64) <<< ((nI (qu y)).toInt64 &&& 63)))) := qfb.L rfl
          have ht18 : ur m C H Q18 := htb.trans r18
          refine mw_go mu_g316 (k := 1) (f1 := (148, [(1, .inl ((nI y) + 1)), (0, .inr (.inr (some 147)))], [], Q18)) (C := []) rfl trivial ?_
          rw [(show ((nI y) + 1) = (nI (y + 1)) from (nI_add y 1))]
          refine mw_go mu_g316 (k := 1) (f1 := (112, [(1, .inl (nI (y + 1))), (0, .inr (.inr (some 147)))], [], Q18)) (C := []) rfl trivial ?_
          exact mw_sub (by simp) (ihb (y + 1, Q18) ⟨u18, ht18, (show uq F316b V6 (ud m Q18) from by rw [d18]; exact (zzb.L rfl)), (show (y + 1) ≤ tl from (by omega)), (show ∀ s, s < 16384 → (bts ((ud m Q18).2.2.2.2.1 149) s = true ↔ bts (U.2.2.2.2.1 149) s = true ∨ ∃ i, i < (y + 1) ∧ qu i = s) from by rw [d18]; exact (fun s hs => by rw [upL_at, bts_seton (by omega), hre s hs]; exact ⟨fun w => w.elim (fun w => w.imp id (fun ⟨i, i1, i2⟩ => ⟨i, by omega, i2⟩)) (fun w => Or.inr ⟨y, by omega, w.symm⟩), fun w => w.elim (fun w => Or.inl (Or.inl w)) (fun ⟨i, i1, i2⟩ => by by_cases z : i = y; (rw [z] at i2; exact Or.inr i2.symm); (exact Or.inl (Or.inr ⟨i, by omega, i2⟩)))⟩))⟩ (by show tl - (y + 1) < tl - y; omega))
        · -- 151: not (nI y) < (nI tl)
          have nh17 : ¬ y < tl := fun z => h17 (show nI y < nI tl from (nI_ltI (by omega) (by omega)).mpr z)
          refine mw_of (fun _ => mu_ret rfl trivial ⟨Hsb, rfl, ub, htb, (by rw [db]; exact qfb), ?_⟩)
          rw [db]
          refine ⟨⟨((zzb.i 147 14 rfl).trans ((z6.i 147 14 rfl).trans hj14)), ((zzb.i 147 19 rfl).trans ((z6.i 147 19 rfl).trans hj19))⟩, hh, hhb, ((zzb.i 147 17 rfl).trans ((z6.i 147 17 rfl).trans hj17)), ⟨_, ((zzb.i 147 16 rfl).trans hx16), hx2, fun i hi => by have y := hx0 i hi; rw [(show Va.2.2.2.2.1 150 = U.2.2.2.2.1 150 from (zza.l 150 rfl))] at y; exact y⟩, Or.inl ⟨(show Vb.2.1 147 15 = Va.2.1 147 15 from ((zzb.i 147 15 rfl).trans (z6.i 147 15 rfl))).trans hW1, hW2, (show Vb.2.2.1 147 10 = Va.2.2.1 147 10 from ((zzb.a 147 10 rfl).trans (z6.a 147 10 rfl))).trans hW3⟩, fun _ => Or.inr (fun i hi => by have y := hx0 i (by omega); rw [(show Va.2.2.2.2.1 150 = U.2.2.2.2.1 150 from (zza.l 150 rfl))] at y; exact y), ?_, fun y => absurd ((show Vb.2.1 147 15 = Va.2.1 147 15 from ((zzb.i 147 15 rfl).trans (z6.i 147 15 rfl))).trans hW1) y⟩
          intro _ s hs
          have hyt : y = tl := by omega
          rw [hre s hs, hyt]
    · -- 96: not (nI hh) < (nI tl)
      have nh4 : ¬ hh < tl := fun z => h4 (show nI hh < nI tl from (nI_ltI (by omega) (by omega)).mpr z)
      refine mw_go mu_g316 (k := 2) (f1 := (100, [(0, .inr (.inr (some 147)))], [.inl (mu_i Hsa 147 15)], Hsa)) (C := [mu_is Hsa (some 147) 2]) rfl (show mu_is Hsa (some 147) 2 from (ua.1.1.is rfl)) ?_
      rw [(show mu_i Hsa 147 15 = (-1 : Int32) from (ud_i (U := Va) (m := m) (P := 147) (j := 15) da rfl).trans hW1)]
      refine mw_if (P := (-1 : Int32) < 0) (a := 103) (b := 151) (fun _ => rfl) trivial (fun h19 => ?_) (fun h19 => absurd (by decide) h19)
      refine mw_go mu_g316 (k := 2) (f1 := (107, [(0, .inr (.inr (some 147)))], [.inr (.inr (mu_r Hsa 147 8))], Hsa)) (C := [mu_is Hsa (some 147) 2]) rfl (show mu_is Hsa (some 147) 2 from (ua.1.1.is rfl)) ?_
      rw [(show mu_r Hsa 147 8 = none from (ud_q (U := Va) (m := m) (P := 147) (j := 8) da rfl).trans ((zza.r 147 8 rfl).trans hgo))]
      refine mw_if (P := none = none) (a := 110) (b := 151) (fun _ => rfl) (show none ≠ some 3000000 from (fun z => by cases z)) (fun _ => ?_) (fun h20 => absurd rfl h20)
      refine mw_go mu_g316 (k := 2) (f1 := (112, [(1, .inl (0 : Int32)), (0, .inr (.inr (some 147)))], [], Hsa)) (C := []) rfl trivial ?_
      show mu_W _ _ (112, [(1, .inl (nI 0)), (0, .inr (.inr (some 147)))], [], Hsa) _
      refine mw_sub (L' := [(1, .inl (nI 0)), (0, .inr (.inr (some 147)))]) (by simp) ?_
      refine mw_down (α := Nat × mu_H) (fun zs => (112, [(1, .inl (nI zs.1)), (0, .inr (.inr (some 147)))], [], zs.2)) (fun zs => tl - zs.1) (fun zs => um m zs.2 ∧ ur m C H zs.2 ∧ (uq F316b Va (ud m zs.2)) ∧ (zs.1 ≤ tl) ∧ (∀ s, s < 16384 → (bts ((ud m zs.2).2.2.2.2.1 149) s = true ↔ bts (U.2.2.2.2.1 149) s = true ∨ ∃ i, i < zs.1 ∧ qu i = s))) (fun zs hzb ihb => ?_) (0, Hsa) ⟨ua, hta, (show uq F316b Va (ud m Hsa) from by rw [da]; exact uq.refl _ _), (show 0 ≤ tl from (by omega)), (show ∀ s, s < 16384 → (bts ((ud m Hsa).2.2.2.2.1 149) s = true ↔ bts (U.2.2.2.2.1 149) s = true ∨ ∃ i, i < 0 ∧ qu i = s) from by rw [da]; exact (fun s hs => by rw [(show Va.2.2.2.2.1 149 = U.2.2.2.2.1 149 from (zza.l 149 rfl))]; exact ⟨Or.inl, fun y => y.elim id (fun ⟨i, hi, _⟩ => absurd hi (Nat.not_lt_zero i))⟩))⟩
      obtain ⟨y, Hsb⟩ := zs
      obtain ⟨ub, htb, db, hy, hre⟩ := hzb
      have ub : um m Hsb := ub
      have htb : ur m C H Hsb := htb
      have zzb : uq F316b Va (ud m Hsb) := db
      have hy : y ≤ tl := hy
      have hre : ∀ s, s < 16384 → (bts ((ud m Hsb).2.2.2.2.1 149) s = true ↔ bts (U.2.2.2.2.1 149) s = true ∨ ∃ i, i < y ∧ qu i = s) := hre
      obtain ⟨Vb, db⟩ : ∃ V, ud m Hsb = V := ⟨_, rfl⟩
      rw [db] at zzb hre
      have qfb : uq F316r U Vb := ((uq.refl F316r U).tr zza rfl).tr zzb rfl
      show mu_W _ _ (112, [(1, .inl (nI y)), (0, .inr (.inr (some 147)))], [], Hsb) _
      refine mw_go mu_g316 (k := 3) (f1 := (117, [(1, .inl (nI y)), (0, .inr (.inr (some 147)))], [.inl (mu_i Hsb 147 18), .inl (nI y)], Hsb)) (C := [mu_is Hsb (some 147) 2]) rfl (show mu_is Hsb (some 147) 2 from (ub.1.1.is rfl)) ?_
      rw [(show mu_i Hsb 147 18 = (nI tl) from (ud_i (U := Vb) (m := m) (P := 147) (j := 18) db rfl).trans ((zzb.i 147 18 rfl).trans ((zza.i 147 18 rfl).trans htail)))]
      refine mw_if (P := (nI y) < (nI tl)) (a := 120) (b := 151) (fun _ => rfl) trivial (fun h21 => ?_) (fun h21 => ?_)
      · -- 120: (nI y) < (nI tl)
        have nh21 : y < tl := (nI_ltI (by omega) (by omega)).mp (show nI y < nI tl from h21)
        have hqy := (hqu y (by omega)).2
        refine mw_go mu_g316 (k := 2) (f1 := (124, [(1, .inl (nI y)), (0, .inr (.inr (some 147)))], [.inr (.inr (mu_r Hsb 147 3))], Hsb)) (C := [mu_is Hsb (some 147) 2]) rfl (show mu_is Hsb (some 147) 2 from (ub.1.1.is rfl)) ?_
        rw [(ub.1.1.r (p := 147) (j := 3) (q := 149) rfl)]
        refine mw_go mu_g316 (k := 2) (f1 := (128, [(1, .inl (nI y)), (0, .inr (.inr (some 147)))], [.inr (.inr (mu_r Hsb 147 12)), .inr (.inr (some 149))], Hsb)) (C := [mu_is Hsb (some 147) 2]) rfl (show mu_is Hsb (some 147) 2 from (ub.1.1.is rfl)) ?_
        rw [(show mu_r Hsb 147 12 = (U.2.2.2.1 147 12) from (ud_q (U := Vb) (m := m) (P := 147) (j := 12) db rfl).trans ((zzb.r 147 12 rfl).trans (zza.r 147 12 rfl)))]
        refine mw_go mu_g316 (k := 2) (f1 := (130, [(1, .inl (nI y)), (0, .inr (.inr (some 147)))], [.inl (mu_i Hsb (mu_p (U.2.2.2.1 147 12)) (nI y).toNatClampNeg), .inr (.inr (some 149))], Hsb)) (C := [mu_isr Hsb (U.2.2.2.1 147 12) 100, vp_in (nI y) (mu_n Hsb (mu_p (U.2.2.2.1 147 12)))]) rfl (show (mu_isr Hsb (U.2.2.2.1 147 12) 100) ∧ (vp_in (nI y) (mu_n Hsb (mu_p (U.2.2.2.1 147 12)))) from ⟨((ub.iA db rfl rfl (show Vb.2.2.2.1 147 12 = (U.2.2.2.1 147 12) from ((zzb.r 147 12 rfl).trans (zza.r 147 12 rfl))))).r, (ub.vA (i := y) db rfl rfl (show Vb.2.2.2.1 147 12 = (U.2.2.2.1 147 12) from ((zzb.r 147 12 rfl).trans (zza.r 147 12 rfl))) (show (Vb.2.2.1 147 12).1 = (U.2.2.1 147 12).1 from ((zzb.n 147 12 rfl).trans (zza.n 147 12 rfl))) (by omega) (by omega))⟩) ?_
        rw [(show (mu_i Hsb (mu_p (U.2.2.2.1 147 12)) (nI y).toNatClampNeg) = (nI (qu y)) from ((congrArg (mu_i Hsb (mu_p (U.2.2.2.1 147 12))) (show (nI y).toNatClampNeg = y from nI_clamp (by omega))).trans (ub.gA db rfl rfl (show Vb.2.2.2.1 147 12 = (U.2.2.2.1 147 12) from ((zzb.r 147 12 rfl).trans (zza.r 147 12 rfl))))).trans ((congrArg (fun z => z.2 y) (show Vb.2.2.1 147 12 = (U.2.2.1 147 12) from ((zzb.a 147 12 rfl).trans (zza.a 147 12 rfl)))).trans (hqu y (by omega)).1))]
        refine mw_go mu_g316 (k := 2) (f1 := (133, [(1, .inl (nI y)), (0, .inr (.inr (some 147)))], [.inl ((nI (qu y)) >>> ((6 : Int32) &&& 31)), .inr (.inr (some 149))], Hsb)) (C := []) rfl trivial ?_
        rw [(show ((nI (qu y)) >>> ((6 : Int32) &&& 31)) = (nI ((qu y) / 64)) from (nI_shr6 (a := qu y) (by omega)))]
        refine mw_go mu_g316 (k := 2) (f1 := (135, [(1, .inl (nI y)), (0, .inr (.inr (some 147)))], [.inr (.inl (mu_l Hsb 149 (nI ((qu y) / 64)).toNatClampNeg)), .inl (nI ((qu y) / 64)), .inr (.inr (some 149))], Hsb)) (C := [mu_isr Hsb (some 149) 102, vp_in (nI ((qu y) / 64)) (mu_n Hsb 149)]) rfl (show (mu_isr Hsb (some 149) 102) ∧ (vp_in (nI ((qu y) / 64)) (mu_n Hsb 149)) from ⟨((ub.1.1.a (p := 149) (x := (102, 256)) rfl).1).r, (by rw [show mu_n Hsb 149 = 256 from (ub.1.1.a (p := 149) (x := (102, 256)) rfl).2]; exact vp_in_nI (n := (qu y) / 64) (by omega) (by decide))⟩) ?_
        rw [(show (mu_l Hsb 149 (nI ((qu y) / 64)).toNatClampNeg) = (Vb.2.2.2.2.1 149) ((qu y) / 64) from (congrArg (mu_l Hsb 149) (show (nI ((qu y) / 64)).toNatClampNeg = (qu y) / 64 from nI_clamp (by omega))).trans ((ud_l (m := m) (p := 149) (i := ((qu y) / 64)) db rfl).trans (congrFun (show Vb.2.2.2.2.1 149 = (Vb.2.2.2.2.1 149) from rfl) ((qu y) / 64))))]
        refine mw_go mu_g316 (k := 3) (f1 := (140, [(1, .inl (nI y)), (0, .inr (.inr (some 147)))], [.inr (.inr (mu_r Hsb 147 12)), .inr (.inl (1 : Int64)), .inr (.inl ((Vb.2.2.2.2.1 149) ((qu y) / 64))), .inl (nI ((qu y) / 64)), .inr (.inr (some 149))], Hsb)) (C := [mu_is Hsb (some 147) 2]) rfl (show mu_is Hsb (some 147) 2 from (ub.1.1.is rfl)) ?_
        rw [(show mu_r Hsb 147 12 = (U.2.2.2.1 147 12) from (ud_q (U := Vb) (m := m) (P := 147) (j := 12) db rfl).trans ((zzb.r 147 12 rfl).trans (zza.r 147 12 rfl)))]
        refine mw_go mu_g316 (k := 2) (f1 := (142, [(1, .inl (nI y)), (0, .inr (.inr (some 147)))], [.inl (mu_i Hsb (mu_p (U.2.2.2.1 147 12)) (nI y).toNatClampNeg), .inr (.inl (1 : Int64)), .inr (.inl ((Vb.2.2.2.2.1 149) ((qu y) / 64))), .inl (nI ((qu y) / 64)), .inr (.inr (some 149))], Hsb)) (C := [mu_isr Hsb (U.2.2.2.1 147 12) 100, vp_in (nI y) (mu_n Hsb (mu_p (U.2.2.2.1 147 12)))]) rfl (show (mu_isr Hsb (U.2.2.2.1 147 12) 100) ∧ (vp_in (nI y) (mu_n Hsb (mu_p (U.2.2.2.1 147 12)))) from ⟨((ub.iA db rfl rfl (show Vb.2.2.2.1 147 12 = (U.2.2.2.1 147 12) from ((zzb.r 147 12 rfl).trans (zza.r 147 12 rfl))))).r, (ub.vA (i := y) db rfl rfl (show Vb.2.2.2.1 147 12 = (U.2.2.2.1 147 12) from ((zzb.r 147 12 rfl).trans (zza.r 147 12 rfl))) (show (Vb.2.2.1 147 12).1 = (U.2.2.1 147 12).1 from ((zzb.n 147 12 rfl).trans (zza.n 147 12 rfl))) (by omega) (by omega))⟩) ?_
        rw [(show (mu_i Hsb (mu_p (U.2.2.2.1 147 12)) (nI y).toNatClampNeg) = (nI (qu y)) from ((congrArg (mu_i Hsb (mu_p (U.2.2.2.1 147 12))) (show (nI y).toNatClampNeg = y from nI_clamp (by omega))).trans (ub.gA db rfl rfl (show Vb.2.2.2.1 147 12 = (U.2.2.2.1 147 12) from ((zzb.r 147 12 rfl).trans (zza.r 147 12 rfl))))).trans ((congrArg (fun z => z.2 y) (show Vb.2.2.1 147 12 = (U.2.2.1 147 12) from ((zzb.a 147 12 rfl).trans (zza.a 147 12 rfl)))).trans (hqu y (by omega)).1))]
        refine mw_go mu_g316 (k := 3) (f1 := (145, [(1, .inl (nI y)), (0, .inr (.inr (some 147)))], [], (mu_sl Hsb 149 (nI ((qu y) / 64)).toNatClampNeg (((Vb.2.2.2.2.1 149) ((qu y) / 64)) ||| ((1 : Int64) <<< ((nI (qu y)).toInt64 &&& 63)))))) (C := [mu_is Hsb (some 149) 102, vp_in (nI ((qu y) / 64)) (mu_n Hsb 149)]) rfl (show (mu_is Hsb (some 149) 102) ∧ (vp_in (nI ((qu y) / 64)) (mu_n Hsb 149)) from ⟨((ub.1.1.a (p := 149) (x := (102, 256)) rfl).1), (by rw [show mu_n Hsb 149 = 256 from (ub.1.1.a (p := 149) (x := (102, 256)) rfl).2]; exact vp_in_nI (n := (qu y) / 64) (by omega) (by decide))⟩) ?_
        rw [(show (nI ((qu y) / 64)).toNatClampNeg = (qu y) / 64 from nI_clamp (by omega))]
        obtain ⟨u22, r22, d22⟩ : um m (mu_sl Hsb 149 ((qu y) / 64) (((Vb.2.2.2.2.1 149) ((qu y) / 64)) ||| ((1 : Int64) <<< ((nI (qu y)).toInt64 &&& 63)))) ∧ ur m C Hsb (mu_sl Hsb 149 ((qu y) / 64) (((Vb.2.2.2.2.1 149) ((qu y) / 64)) ||| ((1 : Int64) <<< ((nI (qu y)).toInt64 &&& 63)))) ∧ ud m (mu_sl Hsb 149 ((qu y) / 64) (((Vb.2.2.2.2.1 149) ((qu y) / 64)) ||| ((1 : Int64) <<< ((nI (qu y)).toInt64 &&& 63)))) = (upL Vb 149 ((qu y) / 64) (((Vb.2.2.2.2.1 149) ((qu y) / 64)) ||| ((1 : Int64) <<< ((nI (qu y)).toInt64 &&& 63)))) := ub.sL (C := C) db rfl
        generalize (mu_sl Hsb 149 ((qu y) / 64) (((Vb.2.2.2.2.1 149) ((qu y) / 64)) ||| ((1 : Int64) <<< ((nI (qu y)).toInt64 &&& 63)))) = Q22 at u22 r22 d22 ⊢
        have qf22 : uq F316r U (upL Vb 149 ((qu y) / 64) (((Vb.2.2.2.2.1 149) ((qu y) / 64)) ||| ((1 : Int64) <<< ((nI (qu y)).toInt64 &&& 63)))) := qfb.L rfl
        have ht22 : ur m C H Q22 := htb.trans r22
        refine mw_go mu_g316 (k := 1) (f1 := (148, [(1, .inl ((nI y) + 1)), (0, .inr (.inr (some 147)))], [], Q22)) (C := []) rfl trivial ?_
        rw [(show ((nI y) + 1) = (nI (y + 1)) from (nI_add y 1))]
        refine mw_go mu_g316 (k := 1) (f1 := (112, [(1, .inl (nI (y + 1))), (0, .inr (.inr (some 147)))], [], Q22)) (C := []) rfl trivial ?_
        exact mw_sub (by simp) (ihb (y + 1, Q22) ⟨u22, ht22, (show uq F316b Va (ud m Q22) from by rw [d22]; exact (zzb.L rfl)), (show (y + 1) ≤ tl from (by omega)), (show ∀ s, s < 16384 → (bts ((ud m Q22).2.2.2.2.1 149) s = true ↔ bts (U.2.2.2.2.1 149) s = true ∨ ∃ i, i < (y + 1) ∧ qu i = s) from by rw [d22]; exact (fun s hs => by rw [upL_at, bts_seton (by omega), hre s hs]; exact ⟨fun w => w.elim (fun w => w.imp id (fun ⟨i, i1, i2⟩ => ⟨i, by omega, i2⟩)) (fun w => Or.inr ⟨y, by omega, w.symm⟩), fun w => w.elim (fun w => Or.inl (Or.inl w)) (fun ⟨i, i1, i2⟩ => by by_cases z : i = y; (rw [z] at i2; exact Or.inr i2.symm); (exact Or.inl (Or.inr ⟨i, by omega, i2⟩)))⟩))⟩ (by show tl - (y + 1) < tl - y; omega))
      · -- 151: not (nI y) < (nI tl)
        have nh21 : ¬ y < tl := fun z => h21 (show nI y < nI tl from (nI_ltI (by omega) (by omega)).mpr z)
        refine mw_of (fun _ => mu_ret rfl trivial ⟨Hsb, rfl, ub, htb, (by rw [db]; exact qfb), ?_⟩)
        rw [db]
        refine ⟨⟨((zzb.i 147 14 rfl).trans hj14), ((zzb.i 147 19 rfl).trans hj19)⟩, hh, hhb, ((zzb.i 147 17 rfl).trans hj17), ⟨_, ((zzb.i 147 16 rfl).trans hcc0), hcc1, hcc2⟩, Or.inl ⟨(show Vb.2.1 147 15 = Va.2.1 147 15 from (zzb.i 147 15 rfl)).trans hW1, hW2, (show Vb.2.2.1 147 10 = Va.2.2.1 147 10 from (zzb.a 147 10 rfl)).trans hW3⟩, fun _ => Or.inl (by omega), ?_, fun y => absurd ((show Vb.2.1 147 15 = Va.2.1 147 15 from (zzb.i 147 15 rfl)).trans hW1) y⟩
        intro _ s hs
        have hyt : y = tl := by omega
        rw [hre s hs, hyt]
  · -- B
    have hqk := hqu k (by omega)
    have hrk := (hrx (qu k) hqk.2).2
    refine mw_go mu_g316 (k := 2) (f1 := (19, [(0, .inr (.inr (some 147)))], [.inl (mu_i Hsa 147 17)], Hsa)) (C := [mu_is Hsa (some 147) 2]) rfl (show mu_is Hsa (some 147) 2 from (ua.1.1.is rfl)) ?_
    rw [(show mu_i Hsa 147 17 = (nI hh) from (ud_i (U := Va) (m := m) (P := 147) (j := 17) da rfl).trans hj17)]
    refine mw_go mu_g316 (k := 2) (f1 := (23, [(0, .inr (.inr (some 147)))], [.inl (mu_i Hsa 147 18), .inl (nI hh)], Hsa)) (C := [mu_is Hsa (some 147) 2]) rfl (show mu_is Hsa (some 147) 2 from (ua.1.1.is rfl)) ?_
    rw [(show mu_i Hsa 147 18 = (nI tl) from (ud_i (U := Va) (m := m) (P := 147) (j := 18) da rfl).trans ((zza.i 147 18 rfl).trans htail))]
    refine mw_if (P := (nI hh) < (nI tl)) (a := 26) (b := 96) (fun _ => rfl) trivial (fun h23 => ?_) (fun h23 => ?_)
    · -- 26: (nI hh) < (nI tl)
      have nh23 : hh < tl := (nI_ltI (by omega) (by omega)).mp (show nI hh < nI tl from h23)
      refine mw_go mu_g316 (k := 2) (f1 := (30, [(0, .inr (.inr (some 147)))], [.inl (mu_i Hsa 147 15)], Hsa)) (C := [mu_is Hsa (some 147) 2]) rfl (show mu_is Hsa (some 147) 2 from (ua.1.1.is rfl)) ?_
      rw [(show mu_i Hsa 147 15 = (nI (rx (qu k))) from (ud_i (U := Va) (m := m) (P := 147) (j := 15) da rfl).trans hk4)]
      refine mw_if (P := (nI (rx (qu k))) < 0) (a := 33) (b := 96) (fun _ => rfl) trivial (fun h24 => absurd h24 (nI_pos (by omega))) (fun h24 => ?_)
      refine mw_go mu_g316 (k := 2) (f1 := (100, [(0, .inr (.inr (some 147)))], [.inl (mu_i Hsa 147 15)], Hsa)) (C := [mu_is Hsa (some 147) 2]) rfl (show mu_is Hsa (some 147) 2 from (ua.1.1.is rfl)) ?_
      rw [(show mu_i Hsa 147 15 = (nI (rx (qu k))) from (ud_i (U := Va) (m := m) (P := 147) (j := 15) da rfl).trans hk4)]
      refine mw_if (P := (nI (rx (qu k))) < 0) (a := 103) (b := 151) (fun _ => rfl) trivial (fun h25 => absurd h25 (nI_pos (by omega))) (fun h25 => ?_)
      refine mw_of (fun _ => mu_ret rfl trivial ⟨Hsa, rfl, ua, hta, (by rw [da]; exact ((uq.refl F316r U).tr zza rfl)), ?_⟩)
      rw [da]
      refine ⟨⟨hj14, hj19⟩, hh, hhb, hj17, ⟨_, hcc0, hcc1, hcc2⟩, Or.inr ⟨k, hk1, hk2, hk3, (show Va.2.1 147 15 = Va.2.1 147 15 from rfl).trans hk4, hk5, (show Va.2.2.1 147 10 = Va.2.2.1 147 10 from rfl).trans hk6⟩, fun y => absurd (y.symm.trans ((show Va.2.1 147 15 = Va.2.1 147 15 from rfl).trans hk4)) (fun y => nI_neg1 (by omega) y.symm), ?_, fun _ => (zza.l 149 rfl)⟩
      exact fun y => absurd (y.symm.trans ((show Va.2.1 147 15 = Va.2.1 147 15 from rfl).trans hk4)) (fun y => nI_neg1 (by omega) y.symm)
    · -- 96: not (nI hh) < (nI tl)
      have nh23 : ¬ hh < tl := fun z => h23 (show nI hh < nI tl from (nI_ltI (by omega) (by omega)).mpr z)
      refine mw_go mu_g316 (k := 2) (f1 := (100, [(0, .inr (.inr (some 147)))], [.inl (mu_i Hsa 147 15)], Hsa)) (C := [mu_is Hsa (some 147) 2]) rfl (show mu_is Hsa (some 147) 2 from (ua.1.1.is rfl)) ?_
      rw [(show mu_i Hsa 147 15 = (nI (rx (qu k))) from (ud_i (U := Va) (m := m) (P := 147) (j := 15) da rfl).trans hk4)]
      refine mw_if (P := (nI (rx (qu k))) < 0) (a := 103) (b := 151) (fun _ => rfl) trivial (fun h26 => absurd h26 (nI_pos (by omega))) (fun h26 => ?_)
      refine mw_of (fun _ => mu_ret rfl trivial ⟨Hsa, rfl, ua, hta, (by rw [da]; exact ((uq.refl F316r U).tr zza rfl)), ?_⟩)
      rw [da]
      refine ⟨⟨hj14, hj19⟩, hh, hhb, hj17, ⟨_, hcc0, hcc1, hcc2⟩, Or.inr ⟨k, hk1, hk2, hk3, (show Va.2.1 147 15 = Va.2.1 147 15 from rfl).trans hk4, hk5, (show Va.2.2.1 147 10 = Va.2.2.1 147 10 from rfl).trans hk6⟩, fun y => absurd (y.symm.trans ((show Va.2.1 147 15 = Va.2.1 147 15 from rfl).trans hk4)) (fun y => nI_neg1 (by omega) y.symm), ?_, fun _ => (zza.l 149 rfl)⟩
      exact fun y => absurd (y.symm.trans ((show Va.2.1 147 15 = Va.2.1 147 15 from rfl).trans hk4)) (fun y => nI_neg1 (by omega) y.symm)

theorem gr_open1 (h : um m H) (e : ud m H = U) (hw : U.2.1 99 12 = nI wn) (hwb : wn ≤ 256) (hcur : U.2.1 147 16 = nI c) (hc : c ≤ wn) (hz : ∀ i, i < c → U.2.2.2.2.1 150 i = 0) (hhead : U.2.1 147 17 = nI hd) (htail : U.2.1 147 18 = nI tl) (hht : hd ≤ tl) (hq12 : tl ≤ (U.2.2.1 147 12).1) (hq12b : (U.2.2.1 147 12).1 ≤ 16777216) (hqu : ∀ i, i < tl → (U.2.2.1 147 12).2 i = nI (qu i) ∧ qu i < T) (hTb : T ≤ 16384) (h6 : T ≤ (U.2.2.1 129 6).1) (h6b : (U.2.2.1 129 6).1 ≤ 16777216) (hrx : ∀ s, s < T → (U.2.2.1 129 6).2 s = nI (rx s) ∧ rx s < R) (hRl : 7 * R ≤ (U.2.2.1 147 10).1) (h10b : (U.2.2.1 147 10).1 ≤ 16777216) (hix : ∀ r, r < R → (U.2.2.1 147 10).2 (r * 7 + 1) = nI (ix r) ∧ ix r < 2147483648) (hgo : U.2.2.2.1 147 8 = some pg) (hpg : pg < 3000000) : mu_TV (mu_D (d + 2)) 316 [.inr (.inr (some 147))] H (fun H1 => um m H1 ∧ ur m C H H1 ∧ uq F316 U (ud m H1) ∧ ((ud m H1).2.1 147 14 = 0 ∧ (ud m H1).2.1 147 19 = -1) ∧ ∃ hh, (hd ≤ hh ∧ hh ≤ tl) ∧ (ud m H1).2.1 147 17 = nI hh ∧ (∃ c, (ud m H1).2.1 147 16 = nI c ∧ c ≤ wn ∧ ∀ i, i < c → U.2.2.2.2.1 150 i = 0) ∧ OPW U (ud m H1) ix rx qu hd hh ∧ ((ud m H1).2.1 147 15 = -1 → hh = tl ∨ ∀ i, i < wn → U.2.2.2.2.1 150 i = 0)) := by
  refine mu_meth (M := mu_m316) rfl rfl ?_
  refine mw_ht (mu_fn_of (show [0].Nodup by decide)) ?_
  refine mw_go mu_g316 (k := 3) (f1 := (5, [(0, .inr (.inr (some 147)))], [], (mu_si H 147 14 (0 : Int32)))) (C := [mu_is H (some 147) 2]) rfl (show mu_is H (some 147) 2 from (h.1.1.is rfl)) ?_
  obtain ⟨u1, r1, d1⟩ : um m (mu_si H 147 14 (0 : Int32)) ∧ ur m C H (mu_si H 147 14 (0 : Int32)) ∧ ud m (mu_si H 147 14 (0 : Int32)) = (upI U 147 14 (0 : Int32)) := h.sI (C := C) e rfl
  generalize (mu_si H 147 14 (0 : Int32)) = Q1 at u1 r1 d1 ⊢
  have qf1 : uq F316 U (upI U 147 14 (0 : Int32)) := (uq.refl F316 U).I rfl
  have ht1 : ur m C H Q1 := (ur.refl m C H).trans r1
  refine mw_go mu_g316 (k := 3) (f1 := (10, [(0, .inr (.inr (some 147)))], [], (mu_si Q1 147 19 (-1 : Int32)))) (C := [mu_is Q1 (some 147) 2]) rfl (show mu_is Q1 (some 147) 2 from (u1.1.1.is rfl)) ?_
  obtain ⟨u2, r2, d2⟩ : um m (mu_si Q1 147 19 (-1 : Int32)) ∧ ur m C Q1 (mu_si Q1 147 19 (-1 : Int32)) ∧ ud m (mu_si Q1 147 19 (-1 : Int32)) = (upI (upI U 147 14 (0 : Int32)) 147 19 (-1 : Int32)) := u1.sI (C := C) d1 rfl
  generalize (mu_si Q1 147 19 (-1 : Int32)) = Q2 at u2 r2 d2 ⊢
  have qf2 : uq F316 U (upI (upI U 147 14 (0 : Int32)) 147 19 (-1 : Int32)) := qf1.I rfl
  have ht2 : ur m C H Q2 := ht1.trans r2
  refine mw_go mu_g316 (k := 3) (f1 := (15, [(0, .inr (.inr (some 147)))], [], (mu_si Q2 147 15 (-1 : Int32)))) (C := [mu_is Q2 (some 147) 2]) rfl (show mu_is Q2 (some 147) 2 from (u2.1.1.is rfl)) ?_
  obtain ⟨u3, r3, d3⟩ : um m (mu_si Q2 147 15 (-1 : Int32)) ∧ ur m C Q2 (mu_si Q2 147 15 (-1 : Int32)) ∧ ud m (mu_si Q2 147 15 (-1 : Int32)) = (upI (upI (upI U 147 14 (0 : Int32)) 147 19 (-1 : Int32)) 147 15 (-1 : Int32)) := u2.sI (C := C) d2 rfl
  generalize (mu_si Q2 147 15 (-1 : Int32)) = Q3 at u3 r3 d3 ⊢
  have qf3 : uq F316 U (upI (upI (upI U 147 14 (0 : Int32)) 147 19 (-1 : Int32)) 147 15 (-1 : Int32)) := qf2.I rfl
  have ht3 : ur m C H Q3 := ht2.trans r3
  refine mw_down (α := Nat × mu_H) (fun zs => (15, [(0, .inr (.inr (some 147)))], [], zs.2)) (fun zs => tl + 1 - zs.1) (fun zs => um m zs.2 ∧ ur m C H zs.2 ∧ uq F316 U (ud m zs.2) ∧ (hd ≤ zs.1 ∧ zs.1 ≤ tl) ∧ (ud m zs.2).2.1 147 17 = nI zs.1 ∧ ((ud m zs.2).2.1 147 14 = 0 ∧ (ud m zs.2).2.1 147 19 = -1) ∧ (∃ cc, (ud m zs.2).2.1 147 16 = nI cc ∧ cc ≤ wn ∧ ∀ i, i < cc → U.2.2.2.2.1 150 i = 0) ∧ OPW U (ud m zs.2) ix rx qu hd zs.1) (fun zs hza iha => ?_) (hd, Q3) ⟨u3, ht3, by rw [d3]; exact (((uq.refl F316 U).I rfl).I rfl).I rfl, ⟨Nat.le_refl _, hht⟩, by rw [d3]; exact hhead, by rw [d3]; exact ⟨rfl, rfl⟩, by rw [d3]; exact ⟨c, hcur, hc, hz⟩, by rw [d3]; exact Or.inl ⟨rfl, fun i h1 h2 => absurd h2 (by omega), rfl⟩⟩
  obtain ⟨hh, Hsa⟩ := zs
  obtain ⟨ua, hta, zza, hhb, hj17, ⟨hj14, hj19⟩, ⟨cc, hcc0, hcc1, hcc2⟩, hOP⟩ := hza
  have ua : um m Hsa := ua
  have hta : ur m C H Hsa := hta
  have zza : uq F316 U (ud m Hsa) := zza
  have hhb : hd ≤ hh ∧ hh ≤ tl := hhb
  have hj17 : (ud m Hsa).2.1 147 17 = nI hh := hj17
  have hj14 : (ud m Hsa).2.1 147 14 = 0 := hj14
  have hj19 : (ud m Hsa).2.1 147 19 = -1 := hj19
  have hcc0 : (ud m Hsa).2.1 147 16 = nI cc := hcc0
  have hOP : OPW U (ud m Hsa) ix rx qu hd hh := hOP
  obtain ⟨Va, da⟩ : ∃ V, ud m Hsa = V := ⟨_, rfl⟩
  rw [da] at zza hj17 hj14 hj19 hcc0 hOP
  show mu_W _ _ (15, [(0, .inr (.inr (some 147)))], [], Hsa) _
  rcases hOP with ⟨hW1, hW2, hW3⟩ | ⟨k, hk1, hk2, hk3, hk4, hk5, hk6⟩
  · -- A
    refine mw_go mu_g316 (k := 2) (f1 := (19, [(0, .inr (.inr (some 147)))], [.inl (mu_i Hsa 147 17)], Hsa)) (C := [mu_is Hsa (some 147) 2]) rfl (show mu_is Hsa (some 147) 2 from (ua.1.1.is rfl)) ?_
    rw [(show mu_i Hsa 147 17 = (nI hh) from (ud_i (U := Va) (m := m) (P := 147) (j := 17) da rfl).trans hj17)]
    refine mw_go mu_g316 (k := 2) (f1 := (23, [(0, .inr (.inr (some 147)))], [.inl (mu_i Hsa 147 18), .inl (nI hh)], Hsa)) (C := [mu_is Hsa (some 147) 2]) rfl (show mu_is Hsa (some 147) 2 from (ua.1.1.is rfl)) ?_
    rw [(show mu_i Hsa 147 18 = (nI tl) from (ud_i (U := Va) (m := m) (P := 147) (j := 18) da rfl).trans ((zza.i 147 18 rfl).trans htail))]
    refine mw_if (P := (nI hh) < (nI tl)) (a := 26) (b := 96) (fun _ => rfl) trivial (fun h4 => ?_) (fun h4 => ?_)
    · -- 26: (nI hh) < (nI tl)
      have nh4 : hh < tl := (nI_ltI (by omega) (by omega)).mp (show nI hh < nI tl from h4)
      refine mw_go mu_g316 (k := 2) (f1 := (30, [(0, .inr (.inr (some 147)))], [.inl (mu_i Hsa 147 15)], Hsa)) (C := [mu_is Hsa (some 147) 2]) rfl (show mu_is Hsa (some 147) 2 from (ua.1.1.is rfl)) ?_
      rw [(show mu_i Hsa 147 15 = (-1 : Int32) from (ud_i (U := Va) (m := m) (P := 147) (j := 15) da rfl).trans hW1)]
      refine mw_if (P := (-1 : Int32) < 0) (a := 33) (b := 96) (fun _ => rfl) trivial (fun h5 => ?_) (fun h5 => absurd (by decide) h5)
      refine mw_go mu_g316 (k := 3) (f1 := (38, [(0, .inr (.inr (some 147)))], [.inr (.inr (mu_r Hsa 147 4)), .inr (.inr (some 147))], Hsa)) (C := [mu_is Hsa (some 147) 2]) rfl (show mu_is Hsa (some 147) 2 from (ua.1.1.is rfl)) ?_
      rw [(ua.1.1.r (p := 147) (j := 4) (q := 150) rfl)]
      refine mw_cI (fun _ => rfl) (show mu_is Hsa (some 147) 2 from (ua.1.1.is rfl)) (gr_emptied150 (d := d) (C := C) (wn := wn) (c := cc) ua da ((show (Va.2.1 99 12) = (U.2.1 99 12) from (zza.i 99 12 rfl)).trans hw) hwb (hcc0) hcc1 (fun i hi => by rw [(show (Va.2.2.2.2.1 150) = (U.2.2.2.2.1 150) from (zza.l 150 rfl))]; exact hcc2 i hi)) (fun x6 Q6 q6 => ?_)
      rcases q6 with ⟨u6, r6, z6, x, hx1, hx2, hx16, hx0, ⟨rfl, hx3, hx4⟩ | ⟨rfl, hx3⟩⟩
      · -- (0 : Int32)
        have ht6 : ur m C H Q6 := hta.trans r6
        obtain ⟨V6, d6⟩ : ∃ V, ud m Q6 = V := ⟨_, rfl⟩
        rw [d6] at z6 hx16
        have qf6 : uq F316 U V6 := ((uq.refl F316 U).tr zza rfl).tr z6 rfl
        refine mw_if (P := (0 : Int32) = 0) (a := 44) (b := 96) (fun _ => rfl) trivial (fun h7 => ?_) (fun h7 => absurd (by decide) h7)
        have hqk := hqu hh (by omega)
        have hrk := (hrx (qu hh) hqk.2).2
        have hrb := (hix _ hrk).2
        have hx0U : ∀ i, i < x → U.2.2.2.2.1 150 i = 0 := fun i hi => by have y := hx0 i hi; rw [(show Va.2.2.2.2.1 150 = U.2.2.2.2.1 150 from (zza.l 150 rfl))] at y; exact y
        refine mw_go mu_g316 (k := 2) (f1 := (48, [(0, .inr (.inr (some 147)))], [.inr (.inr (mu_r Q6 147 1))], Q6)) (C := [mu_is Q6 (some 147) 2]) rfl (show mu_is Q6 (some 147) 2 from (u6.1.1.is rfl)) ?_
        rw [(u6.1.1.r (p := 147) (j := 1) (q := 129) rfl)]
        refine mw_go mu_g316 (k := 1) (f1 := (51, [(0, .inr (.inr (some 147)))], [.inr (.inr (mu_r Q6 129 6))], Q6)) (C := [mu_is Q6 (some 129) 9]) rfl (show mu_is Q6 (some 129) 9 from (u6.1.1.is rfl)) ?_
        rw [(show mu_r Q6 129 6 = (U.2.2.2.1 129 6) from (ud_q (U := V6) (m := m) (P := 129) (j := 6) d6 rfl).trans ((z6.r 129 6 rfl).trans (zza.r 129 6 rfl)))]
        refine mw_go mu_g316 (k := 2) (f1 := (55, [(0, .inr (.inr (some 147)))], [.inr (.inr (mu_r Q6 147 12)), .inr (.inr (U.2.2.2.1 129 6))], Q6)) (C := [mu_is Q6 (some 147) 2]) rfl (show mu_is Q6 (some 147) 2 from (u6.1.1.is rfl)) ?_
        rw [(show mu_r Q6 147 12 = (U.2.2.2.1 147 12) from (ud_q (U := V6) (m := m) (P := 147) (j := 12) d6 rfl).trans ((z6.r 147 12 rfl).trans (zza.r 147 12 rfl)))]
        refine mw_go mu_g316 (k := 2) (f1 := (59, [(0, .inr (.inr (some 147)))], [.inl (mu_i Q6 147 17), .inr (.inr (U.2.2.2.1 147 12)), .inr (.inr (U.2.2.2.1 129 6))], Q6)) (C := [mu_is Q6 (some 147) 2]) rfl (show mu_is Q6 (some 147) 2 from (u6.1.1.is rfl)) ?_
        rw [(show mu_i Q6 147 17 = (nI hh) from (ud_i (U := V6) (m := m) (P := 147) (j := 17) d6 rfl).trans ((z6.i 147 17 rfl).trans hj17))]
        refine mw_go mu_g316 (k := 1) (f1 := (60, [(0, .inr (.inr (some 147)))], [.inl (mu_i Q6 (mu_p (U.2.2.2.1 147 12)) (nI hh).toNatClampNeg), .inr (.inr (U.2.2.2.1 129 6))], Q6)) (C := [mu_isr Q6 (U.2.2.2.1 147 12) 100, vp_in (nI hh) (mu_n Q6 (mu_p (U.2.2.2.1 147 12)))]) rfl (show (mu_isr Q6 (U.2.2.2.1 147 12) 100) ∧ (vp_in (nI hh) (mu_n Q6 (mu_p (U.2.2.2.1 147 12)))) from ⟨((u6.iA d6 rfl rfl (show V6.2.2.2.1 147 12 = (U.2.2.2.1 147 12) from ((z6.r 147 12 rfl).trans (zza.r 147 12 rfl))))).r, (u6.vA (i := hh) d6 rfl rfl (show V6.2.2.2.1 147 12 = (U.2.2.2.1 147 12) from ((z6.r 147 12 rfl).trans (zza.r 147 12 rfl))) (show (V6.2.2.1 147 12).1 = (U.2.2.1 147 12).1 from ((z6.n 147 12 rfl).trans (zza.n 147 12 rfl))) (by omega) (by omega))⟩) ?_
        rw [(show (mu_i Q6 (mu_p (U.2.2.2.1 147 12)) (nI hh).toNatClampNeg) = (nI (qu hh)) from ((congrArg (mu_i Q6 (mu_p (U.2.2.2.1 147 12))) (show (nI hh).toNatClampNeg = hh from nI_clamp (by omega))).trans (u6.gA d6 rfl rfl (show V6.2.2.2.1 147 12 = (U.2.2.2.1 147 12) from ((z6.r 147 12 rfl).trans (zza.r 147 12 rfl))))).trans ((congrArg (fun z => z.2 hh) (show V6.2.2.1 147 12 = (U.2.2.1 147 12) from ((z6.a 147 12 rfl).trans (zza.a 147 12 rfl)))).trans (hqu hh (by omega)).1))]
        refine mw_go mu_g316 (k := 1) (f1 := (61, [(0, .inr (.inr (some 147)))], [.inl (mu_i Q6 (mu_p (U.2.2.2.1 129 6)) (nI (qu hh)).toNatClampNeg)], Q6)) (C := [mu_isr Q6 (U.2.2.2.1 129 6) 100, vp_in (nI (qu hh)) (mu_n Q6 (mu_p (U.2.2.2.1 129 6)))]) rfl (show (mu_isr Q6 (U.2.2.2.1 129 6) 100) ∧ (vp_in (nI (qu hh)) (mu_n Q6 (mu_p (U.2.2.2.1 129 6)))) from ⟨((u6.iA d6 rfl rfl (show V6.2.2.2.1 129 6 = (U.2.2.2.1 129 6) from ((z6.r 129 6 rfl).trans (zza.r 129 6 rfl))))).r, (u6.vA (i := qu hh) d6 rfl rfl (show V6.2.2.2.1 129 6 = (U.2.2.2.1 129 6) from ((z6.r 129 6 rfl).trans (zza.r 129 6 rfl))) (show (V6.2.2.1 129 6).1 = (U.2.2.1 129 6).1 from ((z6.n 129 6 rfl).trans (zza.n 129 6 rfl))) (by omega) (by omega))⟩) ?_
        rw [(show (mu_i Q6 (mu_p (U.2.2.2.1 129 6)) (nI (qu hh)).toNatClampNeg) = (nI (rx (qu hh))) from ((congrArg (mu_i Q6 (mu_p (U.2.2.2.1 129 6))) (show (nI (qu hh)).toNatClampNeg = qu hh from nI_clamp (by omega))).trans (u6.gA d6 rfl rfl (show V6.2.2.2.1 129 6 = (U.2.2.2.1 129 6) from ((z6.r 129 6 rfl).trans (zza.r 129 6 rfl))))).trans ((congrArg (fun z => z.2 (qu hh)) (show V6.2.2.1 129 6 = (U.2.2.1 129 6) from ((z6.a 129 6 rfl).trans (zza.a 129 6 rfl)))).trans (hrx (qu hh) (hqu _ (by omega)).2).1))]
        refine mw_go mu_g316 (k := 4) (f1 := (65, [(1, .inl (nI (rx (qu hh)))), (0, .inr (.inr (some 147)))], [.inl (1 : Int32), .inl (nI (rx (qu hh))), .inr (.inr (some 147))], Q6)) (C := []) rfl trivial ?_
        refine mw_cIe (fun _ => rfl) (show mu_is Q6 (some 147) 2 from (u6.1.1.is rfl)) (gr_node (d := d) (r := rx (qu hh)) (c := 1) u6 d6 (by rw [(show (V6.2.2.1 147 10).1 = (U.2.2.1 147 10).1 from ((z6.n 147 10 rfl).trans (zza.n 147 10 rfl)))]; omega) (by rw [(show (V6.2.2.1 147 10).1 = (U.2.2.1 147 10).1 from ((z6.n 147 10 rfl).trans (zza.n 147 10 rfl)))]; omega)) ?_
        rw [show (V6.2.2.1 147 10).2 ((rx (qu hh)) * 7 + 1) = nI (ix (rx (qu hh))) from by rw [(show V6.2.2.1 147 10 = U.2.2.1 147 10 from ((z6.a 147 10 rfl)).trans hW3)]; exact (hix _ hrk).1]
        refine mw_if (P := (nI (ix (rx (qu hh)))) = 0) (a := 71) (b := 83) (fun _ => rfl) trivial (fun h9 => ?_) (fun h9 => ?_)
        · -- 71: (nI (ix (rx (qu hh)))) = 0
          have nh9 : (ix (rx (qu hh))) = 0 := (nI_eq (by omega) (by omega)).mp (show nI (ix (rx (qu hh))) = nI 0 from h9)
          have hix0 : ix (rx (qu hh)) = 0 := by omega
          refine mw_go mu_g316 (k := 4) (f1 := (75, [(1, .inl (nI (rx (qu hh)))), (0, .inr (.inr (some 147)))], [.inl (1 : Int32), .inl (1 : Int32), .inl (nI (rx (qu hh))), .inr (.inr (some 147))], Q6)) (C := []) rfl trivial ?_
          refine mw_cV (fun _ => rfl) (show mu_is Q6 (some 147) 2 from (u6.1.1.is rfl)) (gr_set (d := d) (C := C) (r := rx (qu hh)) (c := 1) (v := (1 : Int32)) u6 d6 (by rw [(show (V6.2.2.1 147 10).1 = (U.2.2.1 147 10).1 from ((z6.n 147 10 rfl).trans (zza.n 147 10 rfl)))]; omega) (by rw [(show (V6.2.2.1 147 10).1 = (U.2.2.1 147 10).1 from ((z6.n 147 10 rfl).trans (zza.n 147 10 rfl)))]; omega)) (fun Q10 q10 => ?_)
          obtain ⟨u10, r10, d10⟩ := q10
          have ht10 : ur m C H Q10 := ht6.trans r10
          have qf10 : uq F316 U (upA V6 147 10 ((rx (qu hh)) * 7 + 1) (1 : Int32)) := qf6.A rfl
          refine mw_go mu_g316 (k := 3) (f1 := (83, [(1, .inl (nI (rx (qu hh)))), (0, .inr (.inr (some 147)))], [], (mu_si Q10 147 15 (nI (rx (qu hh)))))) (C := [mu_is Q10 (some 147) 2]) rfl (show mu_is Q10 (some 147) 2 from (u10.1.1.is rfl)) ?_
          obtain ⟨u11, r11, d11⟩ : um m (mu_si Q10 147 15 (nI (rx (qu hh)))) ∧ ur m C Q10 (mu_si Q10 147 15 (nI (rx (qu hh)))) ∧ ud m (mu_si Q10 147 15 (nI (rx (qu hh)))) = (upI (upA V6 147 10 ((rx (qu hh)) * 7 + 1) (1 : Int32)) 147 15 (nI (rx (qu hh)))) := u10.sI (C := C) d10 rfl
          generalize (mu_si Q10 147 15 (nI (rx (qu hh)))) = Q11 at u11 r11 d11 ⊢
          have qf11 : uq F316 U (upI (upA V6 147 10 ((rx (qu hh)) * 7 + 1) (1 : Int32)) 147 15 (nI (rx (qu hh)))) := qf10.I rfl
          have ht11 : ur m C H Q11 := ht10.trans r11
          refine mw_go mu_g316 (k := 3) (f1 := (88, [(1, .inl (nI (rx (qu hh)))), (0, .inr (.inr (some 147)))], [.inl (mu_i Q11 147 17), .inr (.inr (some 147))], Q11)) (C := [mu_is Q11 (some 147) 2]) rfl (show mu_is Q11 (some 147) 2 from (u11.1.1.is rfl)) ?_
          rw [(show mu_i Q11 147 17 = (nI hh) from (ud_i (U := (upI (upA V6 147 10 ((rx (qu hh)) * 7 + 1) (1 : Int32)) 147 15 (nI (rx (qu hh))))) (m := m) (P := 147) (j := 17) d11 rfl).trans ((z6.i 147 17 rfl).trans hj17))]
          refine mw_go mu_g316 (k := 2) (f1 := (90, [(1, .inl (nI (rx (qu hh)))), (0, .inr (.inr (some 147)))], [.inl ((nI hh) + (1 : Int32)), .inr (.inr (some 147))], Q11)) (C := []) rfl trivial ?_
          rw [(show ((nI hh) + (1 : Int32)) = (nI (hh + 1)) from (nI_add hh 1))]
          refine mw_go mu_g316 (k := 1) (f1 := (93, [(1, .inl (nI (rx (qu hh)))), (0, .inr (.inr (some 147)))], [], (mu_si Q11 147 17 (nI (hh + 1))))) (C := [mu_is Q11 (some 147) 2]) rfl (show mu_is Q11 (some 147) 2 from (u11.1.1.is rfl)) ?_
          obtain ⟨u12, r12, d12⟩ : um m (mu_si Q11 147 17 (nI (hh + 1))) ∧ ur m C Q11 (mu_si Q11 147 17 (nI (hh + 1))) ∧ ud m (mu_si Q11 147 17 (nI (hh + 1))) = (upI (upI (upA V6 147 10 ((rx (qu hh)) * 7 + 1) (1 : Int32)) 147 15 (nI (rx (qu hh)))) 147 17 (nI (hh + 1))) := u11.sI (C := C) d11 rfl
          generalize (mu_si Q11 147 17 (nI (hh + 1))) = Q12 at u12 r12 d12 ⊢
          have qf12 : uq F316 U (upI (upI (upA V6 147 10 ((rx (qu hh)) * 7 + 1) (1 : Int32)) 147 15 (nI (rx (qu hh)))) 147 17 (nI (hh + 1))) := qf11.I rfl
          have ht12 : ur m C H Q12 := ht11.trans r12
          refine mw_go mu_g316 (k := 1) (f1 := (15, [(1, .inl (nI (rx (qu hh)))), (0, .inr (.inr (some 147)))], [], Q12)) (C := []) rfl trivial ?_
          exact mw_sub (by simp) (iha (hh + 1, Q12) ⟨u12, ht12, by rw [d12]; exact ((((zza.tr z6 rfl).A rfl).I rfl).I rfl), by show hd ≤ hh + 1 ∧ hh + 1 ≤ tl; omega, by rw [d12]; exact rfl, by rw [d12]; exact ⟨((z6.i 147 14 rfl).trans hj14), ((z6.i 147 19 rfl).trans hj19)⟩, by rw [d12]; exact ⟨x, hx16, hx2, hx0U⟩, by rw [d12]; exact Or.inr ⟨hh, rfl, hhb.1, hix0, rfl, fun i h1 h2 => hW2 i h1 h2, (by show ((V6.2.2.1 147 10).1, fun j => if j = rx (qu hh) * 7 + 1 then (1 : Int32) else (V6.2.2.1 147 10).2 j) = _; rw [(show V6.2.2.1 147 10 = U.2.2.1 147 10 from ((z6.a 147 10 rfl)).trans hW3)])⟩⟩ (by show tl + 1 - (hh + 1) < tl + 1 - hh; omega))
        · -- 83: not (nI (ix (rx (qu hh)))) = 0
          have nh9 : ¬ (ix (rx (qu hh))) = 0 := fun z => h9 (show nI (ix (rx (qu hh))) = nI 0 from (nI_eq (by omega) (by omega)).mpr z)
          have hix0 : ¬ ix (rx (qu hh)) = 0 := by omega
          refine mw_go mu_g316 (k := 3) (f1 := (88, [(1, .inl (nI (rx (qu hh)))), (0, .inr (.inr (some 147)))], [.inl (mu_i Q6 147 17), .inr (.inr (some 147))], Q6)) (C := [mu_is Q6 (some 147) 2]) rfl (show mu_is Q6 (some 147) 2 from (u6.1.1.is rfl)) ?_
          rw [(show mu_i Q6 147 17 = (nI hh) from (ud_i (U := V6) (m := m) (P := 147) (j := 17) d6 rfl).trans ((z6.i 147 17 rfl).trans hj17))]
          refine mw_go mu_g316 (k := 2) (f1 := (90, [(1, .inl (nI (rx (qu hh)))), (0, .inr (.inr (some 147)))], [.inl ((nI hh) + (1 : Int32)), .inr (.inr (some 147))], Q6)) (C := []) rfl trivial ?_
          rw [(show ((nI hh) + (1 : Int32)) = (nI (hh + 1)) from (nI_add hh 1))]
          refine mw_go mu_g316 (k := 1) (f1 := (93, [(1, .inl (nI (rx (qu hh)))), (0, .inr (.inr (some 147)))], [], (mu_si Q6 147 17 (nI (hh + 1))))) (C := [mu_is Q6 (some 147) 2]) rfl (show mu_is Q6 (some 147) 2 from (u6.1.1.is rfl)) ?_
          obtain ⟨u13, r13, d13⟩ : um m (mu_si Q6 147 17 (nI (hh + 1))) ∧ ur m C Q6 (mu_si Q6 147 17 (nI (hh + 1))) ∧ ud m (mu_si Q6 147 17 (nI (hh + 1))) = (upI V6 147 17 (nI (hh + 1))) := u6.sI (C := C) d6 rfl
          generalize (mu_si Q6 147 17 (nI (hh + 1))) = Q13 at u13 r13 d13 ⊢
          have qf13 : uq F316 U (upI V6 147 17 (nI (hh + 1))) := qf6.I rfl
          have ht13 : ur m C H Q13 := ht6.trans r13
          refine mw_go mu_g316 (k := 1) (f1 := (15, [(1, .inl (nI (rx (qu hh)))), (0, .inr (.inr (some 147)))], [], Q13)) (C := []) rfl trivial ?_
          exact mw_sub (by simp) (iha (hh + 1, Q13) ⟨u13, ht13, by rw [d13]; exact ((zza.tr z6 rfl).I rfl), by show hd ≤ hh + 1 ∧ hh + 1 ≤ tl; omega, by rw [d13]; exact rfl, by rw [d13]; exact ⟨((z6.i 147 14 rfl).trans hj14), ((z6.i 147 19 rfl).trans hj19)⟩, by rw [d13]; exact ⟨x, hx16, hx2, hx0U⟩, by rw [d13]; exact Or.inl ⟨((z6.i 147 15 rfl).trans hW1), fun i h1 h2 => by by_cases y : i = hh; (rw [y]; exact hix0); (exact hW2 i h1 (by omega)), ((z6.a 147 10 rfl)).trans hW3⟩⟩ (by show tl + 1 - (hh + 1) < tl + 1 - hh; omega))
      · -- (1 : Int32)
        have ht6 : ur m C H Q6 := hta.trans r6
        obtain ⟨V6, d6⟩ : ∃ V, ud m Q6 = V := ⟨_, rfl⟩
        rw [d6] at z6 hx16
        have qf6 : uq F316 U V6 := ((uq.refl F316 U).tr zza rfl).tr z6 rfl
        refine mw_if (P := (1 : Int32) = 0) (a := 44) (b := 96) (fun _ => rfl) trivial (fun h14 => absurd h14 (by decide)) (fun h14 => ?_)
        refine mw_go mu_g316 (k := 2) (f1 := (100, [(0, .inr (.inr (some 147)))], [.inl (mu_i Q6 147 15)], Q6)) (C := [mu_is Q6 (some 147) 2]) rfl (show mu_is Q6 (some 147) 2 from (u6.1.1.is rfl)) ?_
        rw [(show mu_i Q6 147 15 = (-1 : Int32) from (ud_i (U := V6) (m := m) (P := 147) (j := 15) d6 rfl).trans ((z6.i 147 15 rfl).trans hW1))]
        refine mw_if (P := (-1 : Int32) < 0) (a := 103) (b := 151) (fun _ => rfl) trivial (fun h15 => ?_) (fun h15 => absurd (by decide) h15)
        refine mw_go mu_g316 (k := 2) (f1 := (107, [(0, .inr (.inr (some 147)))], [.inr (.inr (mu_r Q6 147 8))], Q6)) (C := [mu_is Q6 (some 147) 2]) rfl (show mu_is Q6 (some 147) 2 from (u6.1.1.is rfl)) ?_
        rw [(show mu_r Q6 147 8 = (some pg) from (ud_q (U := V6) (m := m) (P := 147) (j := 8) d6 rfl).trans ((z6.r 147 8 rfl).trans ((zza.r 147 8 rfl).trans hgo)))]
        refine mw_if (P := (some pg) = none) (a := 110) (b := 151) (fun _ => rfl) (show (some pg) ≠ some 3000000 from (fun z => by have z1 := Option.some.inj z; omega)) (fun h16 => absurd h16 (fun z => by cases z)) (fun _ => ?_)
        refine mw_of (fun _ => mu_ret rfl trivial ⟨Q6, rfl, u6, ht6, (by rw [d6]; exact qf6), ?_⟩)
        rw [d6]
        exact ⟨⟨((z6.i 147 14 rfl).trans hj14), ((z6.i 147 19 rfl).trans hj19)⟩, hh, hhb, ((z6.i 147 17 rfl).trans hj17), ⟨_, hx16, hx2, fun i hi => by have y := hx0 i hi; rw [(show Va.2.2.2.2.1 150 = U.2.2.2.2.1 150 from (zza.l 150 rfl))] at y; exact y⟩, Or.inl ⟨(show V6.2.1 147 15 = Va.2.1 147 15 from (z6.i 147 15 rfl)).trans hW1, hW2, (show V6.2.2.1 147 10 = Va.2.2.1 147 10 from (z6.a 147 10 rfl)).trans hW3⟩, fun _ => Or.inr (fun i hi => by have y := hx0 i (by omega); rw [(show Va.2.2.2.2.1 150 = U.2.2.2.2.1 150 from (zza.l 150 rfl))] at y; exact y)⟩
    · -- 96: not (nI hh) < (nI tl)
      have nh4 : ¬ hh < tl := fun z => h4 (show nI hh < nI tl from (nI_ltI (by omega) (by omega)).mpr z)
      refine mw_go mu_g316 (k := 2) (f1 := (100, [(0, .inr (.inr (some 147)))], [.inl (mu_i Hsa 147 15)], Hsa)) (C := [mu_is Hsa (some 147) 2]) rfl (show mu_is Hsa (some 147) 2 from (ua.1.1.is rfl)) ?_
      rw [(show mu_i Hsa 147 15 = (-1 : Int32) from (ud_i (U := Va) (m := m) (P := 147) (j := 15) da rfl).trans hW1)]
      refine mw_if (P := (-1 : Int32) < 0) (a := 103) (b := 151) (fun _ => rfl) trivial (fun h17 => ?_) (fun h17 => absurd (by decide) h17)
      refine mw_go mu_g316 (k := 2) (f1 := (107, [(0, .inr (.inr (some 147)))], [.inr (.inr (mu_r Hsa 147 8))], Hsa)) (C := [mu_is Hsa (some 147) 2]) rfl (show mu_is Hsa (some 147) 2 from (ua.1.1.is rfl)) ?_
      rw [(show mu_r Hsa 147 8 = (some pg) from (ud_q (U := Va) (m := m) (P := 147) (j := 8) da rfl).trans ((zza.r 147 8 rfl).trans hgo))]
      refine mw_if (P := (some pg) = none) (a := 110) (b := 151) (fun _ => rfl) (show (some pg) ≠ some 3000000 from (fun z => by have z1 := Option.some.inj z; omega)) (fun h18 => absurd h18 (fun z => by cases z)) (fun _ => ?_)
      refine mw_of (fun _ => mu_ret rfl trivial ⟨Hsa, rfl, ua, hta, (by rw [da]; exact ((uq.refl F316 U).tr zza rfl)), ?_⟩)
      rw [da]
      exact ⟨⟨hj14, hj19⟩, hh, hhb, hj17, ⟨_, hcc0, hcc1, hcc2⟩, Or.inl ⟨(show Va.2.1 147 15 = Va.2.1 147 15 from rfl).trans hW1, hW2, (show Va.2.2.1 147 10 = Va.2.2.1 147 10 from rfl).trans hW3⟩, fun _ => Or.inl (by omega)⟩
  · -- B
    have hqk := hqu k (by omega)
    have hrk := (hrx (qu k) hqk.2).2
    refine mw_go mu_g316 (k := 2) (f1 := (19, [(0, .inr (.inr (some 147)))], [.inl (mu_i Hsa 147 17)], Hsa)) (C := [mu_is Hsa (some 147) 2]) rfl (show mu_is Hsa (some 147) 2 from (ua.1.1.is rfl)) ?_
    rw [(show mu_i Hsa 147 17 = (nI hh) from (ud_i (U := Va) (m := m) (P := 147) (j := 17) da rfl).trans hj17)]
    refine mw_go mu_g316 (k := 2) (f1 := (23, [(0, .inr (.inr (some 147)))], [.inl (mu_i Hsa 147 18), .inl (nI hh)], Hsa)) (C := [mu_is Hsa (some 147) 2]) rfl (show mu_is Hsa (some 147) 2 from (ua.1.1.is rfl)) ?_
    rw [(show mu_i Hsa 147 18 = (nI tl) from (ud_i (U := Va) (m := m) (P := 147) (j := 18) da rfl).trans ((zza.i 147 18 rfl).trans htail))]
    refine mw_if (P := (nI hh) < (nI tl)) (a := 26) (b := 96) (fun _ => rfl) trivial (fun h19 => ?_) (fun h19 => ?_)
    · -- 26: (nI hh) < (nI tl)
      have nh19 : hh < tl := (nI_ltI (by omega) (by omega)).mp (show nI hh < nI tl from h19)
      refine mw_go mu_g316 (k := 2) (f1 := (30, [(0, .inr (.inr (some 147)))], [.inl (mu_i Hsa 147 15)], Hsa)) (C := [mu_is Hsa (some 147) 2]) rfl (show mu_is Hsa (some 147) 2 from (ua.1.1.is rfl)) ?_
      rw [(show mu_i Hsa 147 15 = (nI (rx (qu k))) from (ud_i (U := Va) (m := m) (P := 147) (j := 15) da rfl).trans hk4)]
      refine mw_if (P := (nI (rx (qu k))) < 0) (a := 33) (b := 96) (fun _ => rfl) trivial (fun h20 => absurd h20 (nI_pos (by omega))) (fun h20 => ?_)
      refine mw_go mu_g316 (k := 2) (f1 := (100, [(0, .inr (.inr (some 147)))], [.inl (mu_i Hsa 147 15)], Hsa)) (C := [mu_is Hsa (some 147) 2]) rfl (show mu_is Hsa (some 147) 2 from (ua.1.1.is rfl)) ?_
      rw [(show mu_i Hsa 147 15 = (nI (rx (qu k))) from (ud_i (U := Va) (m := m) (P := 147) (j := 15) da rfl).trans hk4)]
      refine mw_if (P := (nI (rx (qu k))) < 0) (a := 103) (b := 151) (fun _ => rfl) trivial (fun h21 => absurd h21 (nI_pos (by omega))) (fun h21 => ?_)
      refine mw_of (fun _ => mu_ret rfl trivial ⟨Hsa, rfl, ua, hta, (by rw [da]; exact ((uq.refl F316 U).tr zza rfl)), ?_⟩)
      rw [da]
      exact ⟨⟨hj14, hj19⟩, hh, hhb, hj17, ⟨_, hcc0, hcc1, hcc2⟩, Or.inr ⟨k, hk1, hk2, hk3, (show Va.2.1 147 15 = Va.2.1 147 15 from rfl).trans hk4, hk5, (show Va.2.2.1 147 10 = Va.2.2.1 147 10 from rfl).trans hk6⟩, fun y => absurd (y.symm.trans ((show Va.2.1 147 15 = Va.2.1 147 15 from rfl).trans hk4)) (fun y => nI_neg1 (by omega) y.symm)⟩
    · -- 96: not (nI hh) < (nI tl)
      have nh19 : ¬ hh < tl := fun z => h19 (show nI hh < nI tl from (nI_ltI (by omega) (by omega)).mpr z)
      refine mw_go mu_g316 (k := 2) (f1 := (100, [(0, .inr (.inr (some 147)))], [.inl (mu_i Hsa 147 15)], Hsa)) (C := [mu_is Hsa (some 147) 2]) rfl (show mu_is Hsa (some 147) 2 from (ua.1.1.is rfl)) ?_
      rw [(show mu_i Hsa 147 15 = (nI (rx (qu k))) from (ud_i (U := Va) (m := m) (P := 147) (j := 15) da rfl).trans hk4)]
      refine mw_if (P := (nI (rx (qu k))) < 0) (a := 103) (b := 151) (fun _ => rfl) trivial (fun h22 => absurd h22 (nI_pos (by omega))) (fun h22 => ?_)
      refine mw_of (fun _ => mu_ret rfl trivial ⟨Hsa, rfl, ua, hta, (by rw [da]; exact ((uq.refl F316 U).tr zza rfl)), ?_⟩)
      rw [da]
      exact ⟨⟨hj14, hj19⟩, hh, hhb, hj17, ⟨_, hcc0, hcc1, hcc2⟩, Or.inr ⟨k, hk1, hk2, hk3, (show Va.2.1 147 15 = Va.2.1 147 15 from rfl).trans hk4, hk5, (show Va.2.2.1 147 10 = Va.2.2.1 147 10 from rfl).trans hk6⟩, fun y => absurd (y.symm.trans ((show Va.2.1 147 15 = Va.2.1 147 15 from rfl).trans hk4)) (fun y => nI_neg1 (by omega) y.symm)⟩
end OpenNext
