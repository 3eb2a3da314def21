/-! GRAPH: what leads into a set by one step; what EX, EU and EG make of sets -/
/-- rows before r are marked where they lead into among -/
def NRM (V : Ud) (RB : Nat → Nat → Prop) (B : Nat → Prop) (r : Nat) : Prop := ∀ x, x < r → ((V.2.2.1 147 10).2 (x * 7 + 1) = nI 1 ∧ ∃ t, RB x t ∧ B t) ∨ ((V.2.2.1 147 10).2 (x * 7 + 1) = nI 0 ∧ ¬ ∃ t, RB x t ∧ B t)
section Near
variable {H : mu_H} {U V W : Ud} {m d T R wn ga gi gq nf bf bt r x t N fb : Nat} {C : Nat → Nat} {rx mb me nv : Nat → Nat} {RB : Nat → Nat → Prop} {B : Nat → Prop} {La : Nat → Int64}
theorem bts_put1 {v : Nat} (hv : v ≤ 1) (hx : x < 2147483648) : bts (fun j => if j = x / 64 then La (x / 64) ||| ((nI v).toInt64 <<< ((nI x).toInt64 &&& 63)) else La j) t = true ↔ bts La t = true ∨ (v = 1 ∧ t = x) := by
  have y : v = 0 ∨ v = 1 := by omega
  rcases y with rfl | rfl
  · have e0 : (nI 0).toInt64 = (0 : Int64) := by decide
    rw [e0]
    have e1 : ∀ j, (if j = x / 64 then La (x / 64) ||| ((0 : Int64) <<< ((nI x).toInt64 &&& 63)) else La j) = La j := fun j => by
      by_cases h : j = x / 64
      · rw [if_pos h, h]
        refine btz_ext (fun b hb => ?_)
        rw [btz_or, btz_shl hx hb, btz_0, Bool.and_false, Bool.or_false]
      · rw [if_neg h]
    rw [show (fun j => if j = x / 64 then La (x / 64) ||| ((0 : Int64) <<< ((nI x).toInt64 &&& 63)) else La j) = La from funext e1]
    exact ⟨fun z => Or.inl z, fun z => z.resolve_right (fun w => by have := w.1; omega)⟩
  · have e0 : (nI 1).toInt64 = (1 : Int64) := by decide
    rw [e0, bts_seton hx]
    exact ⟨fun z => z.imp id (fun w => ⟨rfl, w⟩), fun z => z.imp id (fun w => w.2)⟩
theorem NRM.get (h : NRM V RB B R) : ∃ nv : Nat → Nat, ∀ x, x < R → (V.2.2.1 147 10).2 (x * 7 + 1) = nI (nv x) ∧ nv x ≤ 1 ∧ (nv x = 1 ↔ ∃ t, RB x t ∧ B t) := by
  refine ⟨fun x => @ite _ (∃ t, RB x t ∧ B t) (Classical.propDecidable _) 1 0, fun x hx => ?_⟩
  rcases h x hx with ⟨h1, h2⟩ | ⟨h1, h2⟩
  · have e : (@ite _ (∃ t, RB x t ∧ B t) (Classical.propDecidable _) 1 0 : Nat) = 1 := if_pos h2
    show (V.2.2.1 147 10).2 (x * 7 + 1) = nI (@ite _ (∃ t, RB x t ∧ B t) (Classical.propDecidable _) 1 0) ∧ (@ite _ (∃ t, RB x t ∧ B t) (Classical.propDecidable _) 1 0 : Nat) ≤ 1 ∧ ((@ite _ (∃ t, RB x t ∧ B t) (Classical.propDecidable _) 1 0 : Nat) = 1 ↔ _)
    rw [e]
    exact ⟨h1, Nat.le_refl _, ⟨fun _ => h2, fun _ => rfl⟩⟩
  · have e : (@ite _ (∃ t, RB x t ∧ B t) (Classical.propDecidable _) 1 0 : Nat) = 0 := if_neg h2
    show (V.2.2.1 147 10).2 (x * 7 + 1) = nI (@ite _ (∃ t, RB x t ∧ B t) (Classical.propDecidable _) 1 0) ∧ (@ite _ (∃ t, RB x t ∧ B t) (Classical.propDecidable _) 1 0 : Nat) ≤ 1 ∧ ((@ite _ (∃ t, RB x t ∧ B t) (Classical.propDecidable _) 1 0 : Nat) = 1 ↔ _)
    rw [e]
    exact ⟨h1, Nat.zero_le _, ⟨fun z => absurd z (by decide), fun z => absurd z h2⟩⟩
def F324 : Uf := ⟨[], [(147, 15)], [(147, 10)], [], [148, 162], true⟩
theorem NKr (h : ∀ j, j % 7 = 0 → (V.2.2.1 147 10).2 j = (U.2.2.1 147 10).2 j) : NK U V := h
def F324a : Uf := ⟨[], [], [], [], [148, 162], true⟩
/-- PathProver$Graph.near()V -/
abbrev mu_m324 : ev_M := (3, none, [], ev_b324)
theorem mu_g324 : mu_good mu_m324 := mu_goodk ev_k324
theorem gr_near (h : um m H) (e : ud m H = U) (hG : GRB U T R wn rx mb me) (hN : U.2.1 113 2 = nI N) (hfb : U.2.1 113 8 = nI fb) (hfN : fb ≤ N) (hR : R = N - fb) (hgl : LSN U ga gi gq 256) (hgo : U.2.2.2.1 147 8 = some gq) (hwa : U.2.1 147 15 = nI r) (hr : r < R) (hB : ∀ t, t < T → (bts (U.2.2.2.2.1 153) t = true ↔ B t)) (hRB : ∀ x t, RB x t → t < T) (hrow : ROW U RB r bf bt) (hM : NRM U RB B r) : mu_TV (mu_D (d + 3)) 324 [.inr (.inr (some 147))] H (fun H1 => um m H1 ∧ ur m C H H1 ∧ uq F324 U (ud m H1) ∧ ((r + 1 < R ∧ (ud m H1).2.1 147 15 = nI (r + 1) ∧ NRM (ud m H1) RB B (r + 1) ∧ NK U (ud m H1) ∧ GKP ga gi U (ud m H1)) ∨ (r + 1 = R ∧ (ud m H1).2.1 147 15 = -1 ∧ GKP ga gi U (ud m H1) ∧ LSN (ud m H1) ga gi gq 256 ∧ NK U (ud m H1) ∧ ∀ t, t < 64 * wn → (bts (lgf (ud m H1) ga gi) t = true ↔ t < T ∧ ∃ u, RB (rx t) u ∧ B u)))) := by
  obtain ⟨⟨⟨hg12, hg11⟩, hgwn, hTb⟩, ⟨⟨g6a, g6b⟩, hrx⟩, ⟨hRT, g10a, g10b⟩, ⟨g11a, g11b⟩, ⟨g12a, g12b⟩, ⟨g13a, g13b⟩, hmb, hme, hmp1, hmp2, hmp3, hmp4⟩ := id hG
  have hwnb : wn ≤ 256 := by omega
  refine mu_meth (M := mu_m324) rfl rfl ?_
  refine mw_ht (mu_fn_of (show [0].Nodup by decide)) ?_
  refine mw_go mu_g324 (k := 2) (f1 := (4, [(0, .inr (.inr (some 147)))], [.inl (mu_i H 147 15)], H)) (C := [mu_is H (some 147) 2]) rfl (show mu_is H (some 147) 2 from (h.1.1.is rfl)) ?_
  rw [(show mu_i H 147 15 = (nI r) from (ud_i (U := U) (m := m) (P := 147) (j := 15) e rfl).trans hwa)]
  refine mw_go mu_g324 (k := 7) (f1 := (13, [(1, .inl (nI r)), (0, .inr (.inr (some 147)))], [.inr (.inr (mu_r H 147 7)), .inr (.inr (some 147)), .inl (1 : Int32), .inl (nI r), .inr (.inr (some 147))], H)) (C := [mu_is H (some 147) 2]) rfl (show mu_is H (some 147) 2 from (h.1.1.is rfl)) ?_
  rw [(h.1.1.r (p := 147) (j := 7) (q := 153) rfl)]
  refine mw_cI (fun _ => rfl) (show mu_is H (some 147) 2 from (h.1.1.is rfl)) (gr_meets153 (d := (d + 1)) (bf := bf) (bt := bt) h e hrow.1) (fun x1 H1 q1 => ?_)
  obtain ⟨qe1, q1⟩ := q1
  rw [qe1]
  have hmt : (x1 = 0 ∧ ¬ ∃ t, RB r t ∧ B t) ∨ (x1 = 1 ∧ ∃ t, RB r t ∧ B t) := by
    have e0 : (∃ t, t < 16384 ∧ bts (U.2.2.2.2.1 146) t = true ∧ bts (U.2.2.2.2.1 153) t = true) ↔ ∃ t, RB r t ∧ B t := by
      constructor
      · rintro ⟨t, y1, y2, y3⟩; have w := (hrow.2 t y1).mp y2; exact ⟨t, w, (hB t (hRB _ t w)).mp y3⟩
      · rintro ⟨t, y1, y2⟩; have w := hRB _ t y1; exact ⟨t, by omega, (hrow.2 t (by omega)).mpr y1, (hB t w).mpr y2⟩
    rw [e0] at q1
    exact q1
  clear q1
  rcases hmt with ⟨rfl, hmt⟩ | ⟨rfl, hmt⟩
  all_goals replace hmt := HID.mk hmt
  · -- meets (0 : Int32)
    refine mw_if (P := (0 : Int32) = 0) (a := 23) (b := 19) (fun _ => rfl) trivial (fun h2 => ?_) (fun h2 => absurd (by decide) h2)
    refine mw_go mu_g324 (k := 1) (f1 := (24, [(1, .inl (nI r)), (0, .inr (.inr (some 147)))], [.inl (0 : Int32), .inl (1 : Int32), .inl (nI r), .inr (.inr (some 147))], H)) (C := []) rfl trivial ?_
    refine mw_cV (fun _ => rfl) (show mu_is H (some 147) 2 from (h.1.1.is rfl)) (gr_set (d := (d + 1)) (C := C) (r := r) (c := 1) (v := (0 : Int32)) h e (by omega) (by omega)) (fun Q3 q3 => ?_)
    obtain ⟨u3, r3, d3⟩ := q3
    have ht3 : ur m C H Q3 := (ur.refl m C H).trans r3
    have qf3 : uq F324 U (upA U 147 10 (r * 7 + 1) (0 : Int32)) := (uq.refl F324 U).A rfl
    refine mw_go mu_g324 (k := 4) (f1 := (31, [(1, .inl (nI r)), (0, .inr (.inr (some 147)))], [.inl ((nI r) + (1 : Int32)), .inr (.inr (some 147))], Q3)) (C := []) rfl trivial ?_
    rw [(show ((nI r) + (1 : Int32)) = (nI (r + 1)) from (nI_add r 1))]
    refine mw_go mu_g324 (k := 2) (f1 := (35, [(1, .inl (nI r)), (0, .inr (.inr (some 147)))], [.inr (.inr (mu_r Q3 147 1)), .inl (nI (r + 1)), .inr (.inr (some 147))], Q3)) (C := [mu_is Q3 (some 147) 2]) rfl (show mu_is Q3 (some 147) 2 from (u3.1.1.is rfl)) ?_
    rw [(u3.1.1.r (p := 147) (j := 1) (q := 129) rfl)]
    refine mw_cIe (fun _ => rfl) (show mu_is Q3 (some 129) 9 from (u3.1.1.is rfl)) (rl_rows (d := (d + 1)) u3 d3 ((show ((upA U 147 10 (r * 7 + 1) (0 : Int32)).2.1 113 8) = (U.2.1 113 8) from rfl).trans hfb) ((show ((upA U 147 10 (r * 7 + 1) (0 : Int32)).2.1 113 2) = (U.2.1 113 2) from rfl).trans hN) hfN) ?_
    rw [show nI (N - fb) = nI R from congrArg nI hR.symm]
    refine mw_if (P := (nI (r + 1)) < (nI R)) (a := 41) (b := 47) (fun _ => rfl) trivial (fun h5 => ?_) (fun h5 => ?_)
    · -- 41: (nI (r + 1)) < (nI R)
      have nh5 : (r + 1) < R := (nI_ltI (by omega) (by omega)).mp (show nI (r + 1) < nI R from h5)
      refine mw_go mu_g324 (k := 3) (f1 := (44, [(1, .inl (nI r)), (0, .inr (.inr (some 147)))], [.inl ((nI r) + (1 : Int32)), .inr (.inr (some 147))], Q3)) (C := []) rfl trivial ?_
      rw [(show ((nI r) + (1 : Int32)) = (nI (r + 1)) from (nI_add r 1))]
      refine mw_go mu_g324 (k := 2) (f1 := (51, [(1, .inl (nI r)), (0, .inr (.inr (some 147)))], [], (mu_si Q3 147 15 (nI (r + 1))))) (C := [mu_is Q3 (some 147) 2]) rfl (show mu_is Q3 (some 147) 2 from (u3.1.1.is rfl)) ?_
      obtain ⟨u6, r6, d6⟩ : um m (mu_si Q3 147 15 (nI (r + 1))) ∧ ur m C Q3 (mu_si Q3 147 15 (nI (r + 1))) ∧ ud m (mu_si Q3 147 15 (nI (r + 1))) = (upI (upA U 147 10 (r * 7 + 1) (0 : Int32)) 147 15 (nI (r + 1))) := u3.sI (C := C) d3 rfl
      generalize (mu_si Q3 147 15 (nI (r + 1))) = Q6 at u6 r6 d6 ⊢
      have qf6 : uq F324 U (upI (upA U 147 10 (r * 7 + 1) (0 : Int32)) 147 15 (nI (r + 1))) := qf3.I rfl
      have ht6 : ur m C H Q6 := ht3.trans r6
      refine mw_go mu_g324 (k := 2) (f1 := (55, [(1, .inl (nI r)), (0, .inr (.inr (some 147)))], [.inl (mu_i Q6 147 15)], Q6)) (C := [mu_is Q6 (some 147) 2]) rfl (show mu_is Q6 (some 147) 2 from (u6.1.1.is rfl)) ?_
      rw [(show mu_i Q6 147 15 = (nI (r + 1)) from (ud_i (U := (upI (upA U 147 10 (r * 7 + 1) (0 : Int32)) 147 15 (nI (r + 1)))) (m := m) (P := 147) (j := 15) d6 rfl))]
      refine mw_if (P := (nI (r + 1)) < 0) (a := 58) (b := 122) (fun _ => rfl) trivial (fun h7 => absurd h7 (show ¬ (nI (r + 1)) < 0 from nI_pos (by omega))) (fun h7 => ?_)
      exact mw_of (fun _ => mu_ret rfl trivial ⟨Q6, rfl, u6, ht6, (by rw [d6]; exact qf6), Or.inl ⟨by omega, (congrArg (fun z : Ud => z.2.1 147 15) d6), (by rw [d6]; exact fun y hy => (by
          show ((if y * 7 + 1 = r * 7 + 1 then nI 0 else (U.2.2.1 147 10).2 (y * 7 + 1)) = nI 1 ∧ _) ∨ ((if y * 7 + 1 = r * 7 + 1 then nI 0 else (U.2.2.1 147 10).2 (y * 7 + 1)) = nI 0 ∧ _)
          by_cases w : y = r
          · rw [if_pos (by omega), w]; exact Or.inr ⟨rfl, hmt.out⟩
          · rw [if_neg (by omega)]; exact hM y (by omega))), (by rw [d6]; exact NKr (fun j hj => if_neg (by omega))), (by rw [d6]; exact GKP.of_eq (fun p hp => rfl) rfl)⟩⟩)
    · -- 47: not (nI (r + 1)) < (nI R)
      have nh5 : ¬ (r + 1) < R := fun z => h5 (show nI (r + 1) < nI R from (nI_ltI (by omega) (by omega)).mpr z)
      refine mw_go mu_g324 (k := 2) (f1 := (51, [(1, .inl (nI r)), (0, .inr (.inr (some 147)))], [], (mu_si Q3 147 15 (-1 : Int32)))) (C := [mu_is Q3 (some 147) 2]) rfl (show mu_is Q3 (some 147) 2 from (u3.1.1.is rfl)) ?_
      obtain ⟨u8, r8, d8⟩ : um m (mu_si Q3 147 15 (-1 : Int32)) ∧ ur m C Q3 (mu_si Q3 147 15 (-1 : Int32)) ∧ ud m (mu_si Q3 147 15 (-1 : Int32)) = (upI (upA U 147 10 (r * 7 + 1) (0 : Int32)) 147 15 (-1 : Int32)) := u3.sI (C := C) d3 rfl
      generalize (mu_si Q3 147 15 (-1 : Int32)) = Q8 at u8 r8 d8 ⊢
      have qf8 : uq F324 U (upI (upA U 147 10 (r * 7 + 1) (0 : Int32)) 147 15 (-1 : Int32)) := qf3.I rfl
      have ht8 : ur m C H Q8 := ht3.trans r8
      refine mw_go mu_g324 (k := 2) (f1 := (55, [(1, .inl (nI r)), (0, .inr (.inr (some 147)))], [.inl (mu_i Q8 147 15)], Q8)) (C := [mu_is Q8 (some 147) 2]) rfl (show mu_is Q8 (some 147) 2 from (u8.1.1.is rfl)) ?_
      rw [(show mu_i Q8 147 15 = (-1 : Int32) from (ud_i (U := (upI (upA U 147 10 (r * 7 + 1) (0 : Int32)) 147 15 (-1 : Int32))) (m := m) (P := 147) (j := 15) d8 rfl))]
      refine mw_if (P := (-1 : Int32) < 0) (a := 58) (b := 122) (fun _ => rfl) trivial (fun h9 => ?_) (fun h9 => absurd (by decide) h9)
      refine mw_go mu_g324 (k := 2) (f1 := (62, [(1, .inl (nI r)), (0, .inr (.inr (some 147)))], [.inr (.inr (mu_r Q8 147 8))], Q8)) (C := [mu_is Q8 (some 147) 2]) rfl (show mu_is Q8 (some 147) 2 from (u8.1.1.is rfl)) ?_
      rw [(show mu_r Q8 147 8 = (some gq) from (ud_q (U := (upI (upA U 147 10 (r * 7 + 1) (0 : Int32)) 147 15 (-1 : Int32))) (m := m) (P := 147) (j := 8) d8 rfl).trans hgo)]
      refine mw_go mu_g324 (k := 3) (f1 := (67, [(1, .inl (nI r)), (0, .inr (.inr (some 147)))], [.inr (.inr (mu_r Q8 147 0)), .inl (0 : Int32), .inr (.inr (some gq))], Q8)) (C := [mu_is Q8 (some 147) 2]) rfl (show mu_is Q8 (some 147) 2 from (u8.1.1.is rfl)) ?_
      rw [(u8.1.1.r (p := 147) (j := 0) (q := 99) rfl)]
      refine mw_go mu_g324 (k := 1) (f1 := (70, [(1, .inl (nI r)), (0, .inr (.inr (some 147)))], [.inl (mu_i Q8 99 12), .inl (0 : Int32), .inr (.inr (some gq))], Q8)) (C := [mu_is Q8 (some 99) 13]) rfl (show mu_is Q8 (some 99) 13 from (u8.1.1.is rfl)) ?_
      rw [(show mu_i Q8 99 12 = (nI wn) from (ud_i (U := (upI (upA U 147 10 (r * 7 + 1) (0 : Int32)) 147 15 (-1 : Int32))) (m := m) (P := 99) (j := 12) d8 rfl).trans hg12)]
      refine mw_go mu_g324 (k := 1) (f1 := (71, [(1, .inl (nI r)), (0, .inr (.inr (some 147)))], [.inr (.inl (0 : Int64)), .inl (nI wn), .inl (0 : Int32), .inr (.inr (some gq))], Q8)) (C := []) rfl trivial ?_
      have hrR1 : r + 1 = R := by omega
      have hqv : uq F324 U (upI (upA U 147 10 (r * 7 + 1) (0 : Int32)) 147 15 (-1 : Int32)) := (show uq F324 U (upI (upA U 147 10 (r * 7 + 1) (0 : Int32)) 147 15 (-1 : Int32)) from (((uq.refl F324 U).A rfl).I rfl))
      have hgv : LSN (upI (upA U 147 10 (r * 7 + 1) (0 : Int32)) 147 15 (-1 : Int32)) ga gi gq 256 := hgl.keep (fun b c hb => by rcases hb with rfl | rfl <;> rfl) rfl
      have hNn : NRM (upI (upA U 147 10 (r * 7 + 1) (0 : Int32)) 147 15 (-1 : Int32)) RB B R := fun y hy => by
        show ((if y * 7 + 1 = r * 7 + 1 then nI 0 else (U.2.2.1 147 10).2 (y * 7 + 1)) = nI 1 ∧ _) ∨ ((if y * 7 + 1 = r * 7 + 1 then nI 0 else (U.2.2.1 147 10).2 (y * 7 + 1)) = nI 0 ∧ _)
        by_cases w : y = r
        · rw [if_pos (by omega), w]; exact Or.inr ⟨rfl, hmt.out⟩
        · rw [if_neg (by omega)]; exact hM y (by omega)
      obtain ⟨nv, hnv⟩ := hNn.get
      obtain ⟨kb10, kc10, -⟩ := LSN.read u8 d8 hgv
      refine mw_cV (fun _ => rfl) trivial (ar_fillL_ok (d := d) (v := (0 : Int64)) (a := 0) (b := wn) (o := some gq) kb10 (Nat.zero_le _) (by rw [show mu_n Q8 (mu_p (some gq)) = 256 from kc10]; omega) (by rw [show mu_n Q8 (mu_p (some gq)) = 256 from kc10]; decide)) (fun Q10 q10 => ?_)
      obtain ⟨u10, r10, z10, gk10, gl10, gf10⟩ := LSN.fill (C := C) (b := 0) (n := wn - 0) (g := fun _ => (0 : Int64)) u8 d8 hgv
      rw [show ml_fill Q8 gq 0 (fun _ => (0 : Int64)) (wn - 0) = Q10 from q10.symm] at u10 r10 z10 gk10 gl10 gf10
      have ht10 : ur m C H Q10 := ht8.trans r10
      obtain ⟨V10, d10⟩ : ∃ V, ud m Q10 = V := ⟨_, rfl⟩
      rw [d10] at z10 gk10 gl10 gf10
      have qf10 : uq F324 U V10 := hqv.tr z10 rfl
      have hcl0 : ∀ y, y < R → (V10.2.2.1 147 10).2 (y * 7 + 1) = nI (nv y) := fun y hy => by rw [z10.a 147 10 rfl]; exact (hnv y hy).1
      refine mw_go mu_g324 (k := 2) (f1 := (76, [(2, .inl (0 : Int32)), (1, .inl (nI r)), (0, .inr (.inr (some 147)))], [], Q10)) (C := []) rfl trivial ?_
      show mu_W _ _ (76, [(2, .inl (nI 0)), (1, .inl (nI r)), (0, .inr (.inr (some 147)))], [], Q10) _
      refine mw_sub (L' := [(2, .inl (nI 0)), (0, .inr (.inr (some 147))), (1, .inl (nI r))]) (by simp) ?_
      refine mw_down (α := Nat × mu_H) (fun zs => (76, [(2, .inl (nI zs.1)), (0, .inr (.inr (some 147))), (1, .inl (nI r))], [], zs.2)) (fun zs => T - zs.1) (fun zs => um m zs.2 ∧ ur m C H zs.2 ∧ (uq F324a V10 (ud m zs.2)) ∧ (zs.1 ≤ T) ∧ (LSN (ud m zs.2) ga gi gq 256) ∧ (GKP ga gi U (ud m zs.2)) ∧ (∀ t, t < 64 * wn → (bts (lgf (ud m zs.2) ga gi) t = true ↔ t < zs.1 ∧ nv (rx t) = 1))) (fun zs hza iha => ?_) (0, Q10) ⟨u10, ht10, (show uq F324a V10 (ud m Q10) from by rw [d10]; exact uq.refl _ _), (show 0 ≤ T from (Nat.zero_le _)), (show LSN (ud m Q10) ga gi gq 256 from by rw [d10]; exact gl10), (show GKP ga gi U (ud m Q10) from by rw [d10]; exact ((GKP.of_eq (fun p hp => rfl) rfl).trans gk10)), (show ∀ t, t < 64 * wn → (bts (lgf (ud m Q10) ga gi) t = true ↔ t < 0 ∧ nv (rx t) = 1) from by rw [d10]; exact (fun t ht => ⟨fun y => (by unfold bts at y; rw [gf10, if_pos ⟨Nat.zero_le _, by omega⟩, btz_0] at y; cases y), fun y => absurd y.1 (Nat.not_lt_zero t)⟩))⟩
      obtain ⟨x, Hsa⟩ := zs
      obtain ⟨ua, hta, da, hxT, hga, hka, hva⟩ := hza
      have ua : um m Hsa := ua
      have hta : ur m C H Hsa := hta
      have zza : uq F324a V10 (ud m Hsa) := da
      have hxT : x ≤ T := hxT
      have hga : LSN (ud m Hsa) ga gi gq 256 := hga
      have hka : GKP ga gi U (ud m Hsa) := hka
      have hva : ∀ t, t < 64 * wn → (bts (lgf (ud m Hsa) ga gi) t = true ↔ t < x ∧ nv (rx t) = 1) := hva
      obtain ⟨Va, da⟩ : ∃ V, ud m Hsa = V := ⟨_, rfl⟩
      rw [da] at zza hga hka hva
      have qfa : uq F324 U Va := qf10.tr zza rfl
      show mu_W _ _ (76, [(2, .inl (nI x)), (0, .inr (.inr (some 147))), (1, .inl (nI r))], [], Hsa) _
      refine mw_go mu_g324 (k := 3) (f1 := (81, [(2, .inl (nI x)), (0, .inr (.inr (some 147))), (1, .inl (nI r))], [.inr (.inr (mu_r Hsa 147 0)), .inl (nI x)], Hsa)) (C := [mu_is Hsa (some 147) 2]) rfl (show mu_is Hsa (some 147) 2 from (ua.1.1.is rfl)) ?_
      rw [(ua.1.1.r (p := 147) (j := 0) (q := 99) rfl)]
      refine mw_go mu_g324 (k := 1) (f1 := (84, [(2, .inl (nI x)), (0, .inr (.inr (some 147))), (1, .inl (nI r))], [.inl (mu_i Hsa 99 11), .inl (nI x)], Hsa)) (C := [mu_is Hsa (some 99) 13]) rfl (show mu_is Hsa (some 99) 13 from (ua.1.1.is rfl)) ?_
      rw [(show mu_i Hsa 99 11 = (nI T) from (ud_i (U := Va) (m := m) (P := 99) (j := 11) da rfl).trans ((zza.i 99 11 rfl).trans ((z10.i 99 11 rfl).trans hg11)))]
      refine mw_if (P := (nI x) < (nI T)) (a := 87) (b := 122) (fun _ => rfl) trivial (fun h11 => ?_) (fun h11 => ?_)
      · -- 87: (nI x) < (nI T)
        have nh11 : x < T := (nI_ltI (by omega) (by omega)).mp (show nI x < nI T from h11)
        refine mw_go mu_g324 (k := 2) (f1 := (91, [(2, .inl (nI x)), (0, .inr (.inr (some 147))), (1, .inl (nI r))], [.inr (.inr (mu_r Hsa 147 8))], Hsa)) (C := [mu_is Hsa (some 147) 2]) rfl (show mu_is Hsa (some 147) 2 from (ua.1.1.is rfl)) ?_
        rw [(show mu_r Hsa 147 8 = (some gq) from (ud_q (U := Va) (m := m) (P := 147) (j := 8) da rfl).trans ((zza.r 147 8 rfl).trans ((z10.r 147 8 rfl).trans hgo)))]
        refine mw_go mu_g324 (k := 3) (f1 := (95, [(2, .inl (nI x)), (0, .inr (.inr (some 147))), (1, .inl (nI r))], [.inl ((nI x) >>> ((6 : Int32) &&& 31)), .inr (.inr (some gq))], Hsa)) (C := []) rfl trivial ?_
        rw [(show ((nI x) >>> ((6 : Int32) &&& 31)) = (nI (x / 64)) from (nI_shr6 (a := x) (by omega)))]
        refine mw_go mu_g324 (k := 1) (f1 := (96, [(2, .inl (nI x)), (0, .inr (.inr (some 147))), (1, .inl (nI r))], [.inl (nI (x / 64)), .inr (.inr (some gq)), .inl (nI (x / 64)), .inr (.inr (some gq))], Hsa)) (C := []) rfl trivial ?_
        obtain ⟨kb12, kc12, kd12⟩ := LSN.read ua da hga
        refine mw_go mu_g324 (k := 1) (f1 := (97, [(2, .inl (nI x)), (0, .inr (.inr (some 147))), (1, .inl (nI r))], [.inr (.inl (mu_l Hsa gq (nI (x / 64)).toNatClampNeg)), .inl (nI (x / 64)), .inr (.inr (some gq))], Hsa)) (C := [mu_isr Hsa (some gq) 102, vp_in (nI (x / 64)) (mu_n Hsa gq)]) rfl (show (mu_isr Hsa (some gq) 102) ∧ (vp_in (nI (x / 64)) (mu_n Hsa gq)) from ⟨kb12.r, (by rw [kc12]; exact vp_in_nI (n := x / 64) (by omega) (by decide))⟩) ?_
        rw [(show (mu_l Hsa gq (nI (x / 64)).toNatClampNeg) = ((lgf Va ga gi) (x / 64)) from (congrArg (mu_l Hsa gq) (show (nI (x / 64)).toNatClampNeg = x / 64 from nI_clamp (by omega))).trans (kd12 (x / 64)))]
        refine mw_go mu_g324 (k := 3) (f1 := (102, [(2, .inl (nI x)), (0, .inr (.inr (some 147))), (1, .inl (nI r))], [.inr (.inr (mu_r Hsa 147 1)), .inr (.inr (some 147)), .inr (.inl ((lgf Va ga gi) (x / 64))), .inl (nI (x / 64)), .inr (.inr (some gq))], Hsa)) (C := [mu_is Hsa (some 147) 2]) rfl (show mu_is Hsa (some 147) 2 from (ua.1.1.is rfl)) ?_
        rw [(ua.1.1.r (p := 147) (j := 1) (q := 129) rfl)]
        refine mw_go mu_g324 (k := 1) (f1 := (105, [(2, .inl (nI x)), (0, .inr (.inr (some 147))), (1, .inl (nI r))], [.inr (.inr (mu_r Hsa 129 6)), .inr (.inr (some 147)), .inr (.inl ((lgf Va ga gi) (x / 64))), .inl (nI (x / 64)), .inr (.inr (some gq))], Hsa)) (C := [mu_is Hsa (some 129) 9]) rfl (show mu_is Hsa (some 129) 9 from (ua.1.1.is rfl)) ?_
        rw [(show mu_r Hsa 129 6 = (U.2.2.2.1 129 6) from (ud_q (U := Va) (m := m) (P := 129) (j := 6) da rfl).trans ((zza.r 129 6 rfl).trans (z10.r 129 6 rfl)))]
        refine mw_go mu_g324 (k := 2) (f1 := (107, [(2, .inl (nI x)), (0, .inr (.inr (some 147))), (1, .inl (nI r))], [.inl (mu_i Hsa (mu_p (U.2.2.2.1 129 6)) (nI x).toNatClampNeg), .inr (.inr (some 147)), .inr (.inl ((lgf Va ga gi) (x / 64))), .inl (nI (x / 64)), .inr (.inr (some gq))], Hsa)) (C := [mu_isr Hsa (U.2.2.2.1 129 6) 100, vp_in (nI x) (mu_n Hsa (mu_p (U.2.2.2.1 129 6)))]) rfl (show (mu_isr Hsa (U.2.2.2.1 129 6) 100) ∧ (vp_in (nI x) (mu_n Hsa (mu_p (U.2.2.2.1 129 6)))) from ⟨((ua.iA da rfl rfl (show Va.2.2.2.1 129 6 = (U.2.2.2.1 129 6) from ((zza.r 129 6 rfl).trans (z10.r 129 6 rfl))))).r, (ua.vA (i := x) da rfl rfl (show Va.2.2.2.1 129 6 = (U.2.2.2.1 129 6) from ((zza.r 129 6 rfl).trans (z10.r 129 6 rfl))) (show (Va.2.2.1 129 6).1 = (U.2.2.1 129 6).1 from ((zza.n 129 6 rfl).trans (z10.n 129 6 rfl))) (by omega) (by omega))⟩) ?_
        rw [(show (mu_i Hsa (mu_p (U.2.2.2.1 129 6)) (nI x).toNatClampNeg) = (nI (rx x)) from ((congrArg (mu_i Hsa (mu_p (U.2.2.2.1 129 6))) (show (nI x).toNatClampNeg = x from nI_clamp (by omega))).trans (ua.gA da rfl rfl (show Va.2.2.2.1 129 6 = (U.2.2.2.1 129 6) from ((zza.r 129 6 rfl).trans (z10.r 129 6 rfl))))).trans ((congrArg (fun z => z.2 x) (show Va.2.2.1 129 6 = (U.2.2.1 129 6) from ((zza.a 129 6 rfl).trans (z10.a 129 6 rfl)))).trans (hrx x (by omega)).1))]
        have hrxx : rx x < R := (hrx x (by omega)).2
        have hnx1 : nv (rx x) ≤ 1 := (hnv (rx x) hrxx).2.1
        refine mw_go mu_g324 (k := 1) (f1 := (108, [(2, .inl (nI x)), (0, .inr (.inr (some 147))), (1, .inl (nI r))], [.inl (1 : Int32), .inl (nI (rx x)), .inr (.inr (some 147)), .inr (.inl ((lgf Va ga gi) (x / 64))), .inl (nI (x / 64)), .inr (.inr (some gq))], Hsa)) (C := []) rfl trivial ?_
        refine mw_cIe (fun _ => rfl) (show mu_is Hsa (some 147) 2 from (ua.1.1.is rfl)) (gr_node (d := (d + 1)) (r := rx x) (c := 1) ua da (by (rw [(show (Va.2.2.1 147 10).1 = (U.2.2.1 147 10).1 from ((zza.n 147 10 rfl).trans (z10.n 147 10 rfl)))]; omega)) (by (rw [(show (Va.2.2.1 147 10).1 = (U.2.2.1 147 10).1 from ((zza.n 147 10 rfl).trans (z10.n 147 10 rfl)))]; omega))) ?_
        rw [show (Va.2.2.1 147 10).2 ((rx x) * 7 + 1) = nI (nv (rx x)) from (by rw [zza.a 147 10 rfl]; exact hcl0 (rx x) hrxx)]
        refine mw_go mu_g324 (k := 4) (f1 := (115, [(2, .inl (nI x)), (0, .inr (.inr (some 147))), (1, .inl (nI r))], [.inr (.inl (((lgf Va ga gi) (x / 64)) ||| (((nI (nv (rx x))).toInt64) <<< ((nI x).toInt64 &&& 63)))), .inl (nI (x / 64)), .inr (.inr (some gq))], Hsa)) (C := []) rfl trivial ?_
        obtain ⟨kb14, kc14, -⟩ := LSN.read ua da hga
        refine mw_go mu_g324 (k := 1) (f1 := (116, [(2, .inl (nI x)), (0, .inr (.inr (some 147))), (1, .inl (nI r))], [], (mu_sl Hsa gq (nI (x / 64)).toNatClampNeg (((lgf Va ga gi) (x / 64)) ||| (((nI (nv (rx x))).toInt64) <<< ((nI x).toInt64 &&& 63)))))) (C := [mu_is Hsa (some gq) 102, vp_in (nI (x / 64)) (mu_n Hsa gq)]) rfl (show (mu_is Hsa (some gq) 102) ∧ (vp_in (nI (x / 64)) (mu_n Hsa gq)) from ⟨kb14, (by rw [kc14]; exact vp_in_nI (n := x / 64) (by omega) (by decide))⟩) ?_
        rw [(show (nI (x / 64)).toNatClampNeg = x / 64 from nI_clamp (by omega))]
        obtain ⟨u14, r14, z14, gk14, gl14, gf14⟩ := LSN.write (C := C) (k := x / 64) (v := (((lgf Va ga gi) (x / 64)) ||| (((nI (nv (rx x))).toInt64) <<< ((nI x).toInt64 &&& 63)))) ua da hga
        generalize (mu_sl Hsa gq (x / 64) (((lgf Va ga gi) (x / 64)) ||| (((nI (nv (rx x))).toInt64) <<< ((nI x).toInt64 &&& 63)))) = Q14 at u14 r14 z14 gk14 gl14 gf14 ⊢
        obtain ⟨V14, d14⟩ : ∃ V, ud m Q14 = V := ⟨_, rfl⟩
        rw [d14] at z14 gk14 gl14 gf14
        have ht14 : ur m C H Q14 := hta.trans r14
        have qf14 : uq F324 U V14 := qfa.tr z14 rfl
        refine mw_go mu_g324 (k := 1) (f1 := (119, [(2, .inl ((nI x) + 1)), (0, .inr (.inr (some 147))), (1, .inl (nI r))], [], Q14)) (C := []) rfl trivial ?_
        rw [(show ((nI x) + 1) = (nI (x + 1)) from (nI_add x 1))]
        refine mw_go mu_g324 (k := 1) (f1 := (76, [(2, .inl (nI (x + 1))), (0, .inr (.inr (some 147))), (1, .inl (nI r))], [], Q14)) (C := []) rfl trivial ?_
        exact mw_sub (by simp) (iha (x + 1, Q14) ⟨u14, ht14, (show uq F324a V10 (ud m Q14) from by rw [d14]; exact (zza.tr z14 rfl)), (show (x + 1) ≤ T from (by omega)), (show LSN (ud m Q14) ga gi gq 256 from by rw [d14]; exact gl14), (show GKP ga gi U (ud m Q14) from by rw [d14]; exact (hka.trans gk14)), (show ∀ t, t < 64 * wn → (bts (lgf (ud m Q14) ga gi) t = true ↔ t < (x + 1) ∧ nv (rx t) = 1) from by rw [d14]; exact (fun t ht => by rw [show lgf V14 ga gi = _ from funext gf14, bts_put1 hnx1 (by omega), hva t ht]; exact ⟨fun z => (by rcases z with z | z; (exact ⟨by omega, z.2⟩); (exact ⟨by omega, by rw [z.2]; exact z.1⟩)), fun z => (by by_cases w : t = x; (exact Or.inr ⟨by rw [← w]; exact z.2, w⟩); (exact Or.inl ⟨by omega, z.2⟩))⟩))⟩ (by show T - (x + 1) < T - x; omega))
      · -- 122: not (nI x) < (nI T)
        have nh11 : ¬ x < T := fun z => h11 (show nI x < nI T from (nI_ltI (by omega) (by omega)).mpr z)
        refine mw_of (fun _ => mu_ret rfl trivial ⟨Hsa, rfl, ua, hta, (by rw [da]; exact qfa), Or.inr ⟨hrR1, (by rw [da]; exact (zza.i 147 15 rfl).trans (z10.i 147 15 rfl)), (by rw [da]; exact hka), (by rw [da]; exact hga), (by rw [da]; exact NKr (fun j hj => by rw [show (Va.2.2.1 147 10) = ((upI (upA U 147 10 (r * 7 + 1) (0 : Int32)) 147 15 (-1 : Int32)).2.2.1 147 10) from (zza.a 147 10 rfl).trans (z10.a 147 10 rfl)]; exact if_neg (by omega))), ?_⟩⟩)
        rw [da]
        intro t ht
        rw [hva t ht]
        exact ⟨fun y => ⟨by omega, (hnv (rx t) (hrx t (by omega)).2).2.2.mp y.2⟩, fun y => ⟨by omega, (hnv (rx t) (hrx t y.1).2).2.2.mpr y.2⟩⟩
  · -- meets (1 : Int32)
    refine mw_if (P := (1 : Int32) = 0) (a := 23) (b := 19) (fun _ => rfl) trivial (fun h15 => absurd h15 (by decide)) (fun h15 => ?_)
    refine mw_go mu_g324 (k := 2) (f1 := (24, [(1, .inl (nI r)), (0, .inr (.inr (some 147)))], [.inl (1 : Int32), .inl (1 : Int32), .inl (nI r), .inr (.inr (some 147))], H)) (C := []) rfl trivial ?_
    refine mw_cV (fun _ => rfl) (show mu_is H (some 147) 2 from (h.1.1.is rfl)) (gr_set (d := (d + 1)) (C := C) (r := r) (c := 1) (v := (1 : Int32)) h e (by omega) (by omega)) (fun Q16 q16 => ?_)
    obtain ⟨u16, r16, d16⟩ := q16
    have ht16 : ur m C H Q16 := (ur.refl m C H).trans r16
    have qf16 : uq F324 U (upA U 147 10 (r * 7 + 1) (1 : Int32)) := (uq.refl F324 U).A rfl
    refine mw_go mu_g324 (k := 4) (f1 := (31, [(1, .inl (nI r)), (0, .inr (.inr (some 147)))], [.inl ((nI r) + (1 : Int32)), .inr (.inr (some 147))], Q16)) (C := []) rfl trivial ?_
    rw [(show ((nI r) + (1 : Int32)) = (nI (r + 1)) from (nI_add r 1))]
    refine mw_go mu_g324 (k := 2) (f1 := (35, [(1, .inl (nI r)), (0, .inr (.inr (some 147)))], [.inr (.inr (mu_r Q16 147 1)), .inl (nI (r + 1)), .inr (.inr (some 147))], Q16)) (C := [mu_is Q16 (some 147) 2]) rfl (show mu_is Q16 (some 147) 2 from (u16.1.1.is rfl)) ?_
    rw [(u16.1.1.r (p := 147) (j := 1) (q := 129) rfl)]
    refine mw_cIe (fun _ => rfl) (show mu_is Q16 (some 129) 9 from (u16.1.1.is rfl)) (rl_rows (d := (d + 1)) u16 d16 ((show ((upA U 147 10 (r * 7 + 1) (1 : Int32)).2.1 113 8) = (U.2.1 113 8) from rfl).trans hfb) ((show ((upA U 147 10 (r * 7 + 1) (1 : Int32)).2.1 113 2) = (U.2.1 113 2) from rfl).trans hN) hfN) ?_
    rw [show nI (N - fb) = nI R from congrArg nI hR.symm]
    refine mw_if (P := (nI (r + 1)) < (nI R)) (a := 41) (b := 47) (fun _ => rfl) trivial (fun h18 => ?_) (fun h18 => ?_)
    · -- 41: (nI (r + 1)) < (nI R)
      have nh18 : (r + 1) < R := (nI_ltI (by omega) (by omega)).mp (show nI (r + 1) < nI R from h18)
      refine mw_go mu_g324 (k := 3) (f1 := (44, [(1, .inl (nI r)), (0, .inr (.inr (some 147)))], [.inl ((nI r) + (1 : Int32)), .inr (.inr (some 147))], Q16)) (C := []) rfl trivial ?_
      rw [(show ((nI r) + (1 : Int32)) = (nI (r + 1)) from (nI_add r 1))]
      refine mw_go mu_g324 (k := 2) (f1 := (51, [(1, .inl (nI r)), (0, .inr (.inr (some 147)))], [], (mu_si Q16 147 15 (nI (r + 1))))) (C := [mu_is Q16 (some 147) 2]) rfl (show mu_is Q16 (some 147) 2 from (u16.1.1.is rfl)) ?_
      obtain ⟨u19, r19, d19⟩ : um m (mu_si Q16 147 15 (nI (r + 1))) ∧ ur m C Q16 (mu_si Q16 147 15 (nI (r + 1))) ∧ ud m (mu_si Q16 147 15 (nI (r + 1))) = (upI (upA U 147 10 (r * 7 + 1) (1 : Int32)) 147 15 (nI (r + 1))) := u16.sI (C := C) d16 rfl
      generalize (mu_si Q16 147 15 (nI (r + 1))) = Q19 at u19 r19 d19 ⊢
      have qf19 : uq F324 U (upI (upA U 147 10 (r * 7 + 1) (1 : Int32)) 147 15 (nI (r + 1))) := qf16.I rfl
      have ht19 : ur m C H Q19 := ht16.trans r19
      refine mw_go mu_g324 (k := 2) (f1 := (55, [(1, .inl (nI r)), (0, .inr (.inr (some 147)))], [.inl (mu_i Q19 147 15)], Q19)) (C := [mu_is Q19 (some 147) 2]) rfl (show mu_is Q19 (some 147) 2 from (u19.1.1.is rfl)) ?_
      rw [(show mu_i Q19 147 15 = (nI (r + 1)) from (ud_i (U := (upI (upA U 147 10 (r * 7 + 1) (1 : Int32)) 147 15 (nI (r + 1)))) (m := m) (P := 147) (j := 15) d19 rfl))]
      refine mw_if (P := (nI (r + 1)) < 0) (a := 58) (b := 122) (fun _ => rfl) trivial (fun h20 => absurd h20 (show ¬ (nI (r + 1)) < 0 from nI_pos (by omega))) (fun h20 => ?_)
      exact mw_of (fun _ => mu_ret rfl trivial ⟨Q19, rfl, u19, ht19, (by rw [d19]; exact qf19), Or.inl ⟨by omega, (congrArg (fun z : Ud => z.2.1 147 15) d19), (by rw [d19]; exact fun y hy => (by
          show ((if y * 7 + 1 = r * 7 + 1 then nI 1 else (U.2.2.1 147 10).2 (y * 7 + 1)) = nI 1 ∧ _) ∨ ((if y * 7 + 1 = r * 7 + 1 then nI 1 else (U.2.2.1 147 10).2 (y * 7 + 1)) = nI 0 ∧ _)
          by_cases w : y = r
          · rw [if_pos (by omega), w]; exact Or.inl ⟨rfl, hmt.out⟩
          · rw [if_neg (by omega)]; exact hM y (by omega))), (by rw [d19]; exact NKr (fun j hj => if_neg (by omega))), (by rw [d19]; exact GKP.of_eq (fun p hp => rfl) rfl)⟩⟩)
    · -- 47: not (nI (r + 1)) < (nI R)
      have nh18 : ¬ (r + 1) < R := fun z => h18 (show nI (r + 1) < nI R from (nI_ltI (by omega) (by omega)).mpr z)
      refine mw_go mu_g324 (k := 2) (f1 := (51, [(1, .inl (nI r)), (0, .inr (.inr (some 147)))], [], (mu_si Q16 147 15 (-1 : Int32)))) (C := [mu_is Q16 (some 147) 2]) rfl (show mu_is Q16 (some 147) 2 from (u16.1.1.is rfl)) ?_
      obtain ⟨u21, r21, d21⟩ : um m (mu_si Q16 147 15 (-1 : Int32)) ∧ ur m C Q16 (mu_si Q16 147 15 (-1 : Int32)) ∧ ud m (mu_si Q16 147 15 (-1 : Int32)) = (upI (upA U 147 10 (r * 7 + 1) (1 : Int32)) 147 15 (-1 : Int32)) := u16.sI (C := C) d16 rfl
      generalize (mu_si Q16 147 15 (-1 : Int32)) = Q21 at u21 r21 d21 ⊢
      have qf21 : uq F324 U (upI (upA U 147 10 (r * 7 + 1) (1 : Int32)) 147 15 (-1 : Int32)) := qf16.I rfl
      have ht21 : ur m C H Q21 := ht16.trans r21
      refine mw_go mu_g324 (k := 2) (f1 := (55, [(1, .inl (nI r)), (0, .inr (.inr (some 147)))], [.inl (mu_i Q21 147 15)], Q21)) (C := [mu_is Q21 (some 147) 2]) rfl (show mu_is Q21 (some 147) 2 from (u21.1.1.is rfl)) ?_
      rw [(show mu_i Q21 147 15 = (-1 : Int32) from (ud_i (U := (upI (upA U 147 10 (r * 7 + 1) (1 : Int32)) 147 15 (-1 : Int32))) (m := m) (P := 147) (j := 15) d21 rfl))]
      refine mw_if (P := (-1 : Int32) < 0) (a := 58) (b := 122) (fun _ => rfl) trivial (fun h22 => ?_) (fun h22 => absurd (by decide) h22)
      refine mw_go mu_g324 (k := 2) (f1 := (62, [(1, .inl (nI r)), (0, .inr (.inr (some 147)))], [.inr (.inr (mu_r Q21 147 8))], Q21)) (C := [mu_is Q21 (some 147) 2]) rfl (show mu_is Q21 (some 147) 2 from (u21.1.1.is rfl)) ?_
      rw [(show mu_r Q21 147 8 = (some gq) from (ud_q (U := (upI (upA U 147 10 (r * 7 + 1) (1 : Int32)) 147 15 (-1 : Int32))) (m := m) (P := 147) (j := 8) d21 rfl).trans hgo)]
      refine mw_go mu_g324 (k := 3) (f1 := (67, [(1, .inl (nI r)), (0, .inr (.inr (some 147)))], [.inr (.inr (mu_r Q21 147 0)), .inl (0 : Int32), .inr (.inr (some gq))], Q21)) (C := [mu_is Q21 (some 147) 2]) rfl (show mu_is Q21 (some 147) 2 from (u21.1.1.is rfl)) ?_
      rw [(u21.1.1.r (p := 147) (j := 0) (q := 99) rfl)]
      refine mw_go mu_g324 (k := 1) (f1 := (70, [(1, .inl (nI r)), (0, .inr (.inr (some 147)))], [.inl (mu_i Q21 99 12), .inl (0 : Int32), .inr (.inr (some gq))], Q21)) (C := [mu_is Q21 (some 99) 13]) rfl (show mu_is Q21 (some 99) 13 from (u21.1.1.is rfl)) ?_
      rw [(show mu_i Q21 99 12 = (nI wn) from (ud_i (U := (upI (upA U 147 10 (r * 7 + 1) (1 : Int32)) 147 15 (-1 : Int32))) (m := m) (P := 99) (j := 12) d21 rfl).trans hg12)]
      refine mw_go mu_g324 (k := 1) (f1 := (71, [(1, .inl (nI r)), (0, .inr (.inr (some 147)))], [.inr (.inl (0 : Int64)), .inl (nI wn), .inl (0 : Int32), .inr (.inr (some gq))], Q21)) (C := []) rfl trivial ?_
      have hrR1 : r + 1 = R := by omega
      have hqv : uq F324 U (upI (upA U 147 10 (r * 7 + 1) (1 : Int32)) 147 15 (-1 : Int32)) := (show uq F324 U (upI (upA U 147 10 (r * 7 + 1) (1 : Int32)) 147 15 (-1 : Int32)) from (((uq.refl F324 U).A rfl).I rfl))
      have hgv : LSN (upI (upA U 147 10 (r * 7 + 1) (1 : Int32)) 147 15 (-1 : Int32)) ga gi gq 256 := hgl.keep (fun b c hb => by rcases hb with rfl | rfl <;> rfl) rfl
      have hNn : NRM (upI (upA U 147 10 (r * 7 + 1) (1 : Int32)) 147 15 (-1 : Int32)) RB B R := fun y hy => by
        show ((if y * 7 + 1 = r * 7 + 1 then nI 1 else (U.2.2.1 147 10).2 (y * 7 + 1)) = nI 1 ∧ _) ∨ ((if y * 7 + 1 = r * 7 + 1 then nI 1 else (U.2.2.1 147 10).2 (y * 7 + 1)) = nI 0 ∧ _)
        by_cases w : y = r
        · rw [if_pos (by omega), w]; exact Or.inl ⟨rfl, hmt.out⟩
        · rw [if_neg (by omega)]; exact hM y (by omega)
      obtain ⟨nv, hnv⟩ := hNn.get
      obtain ⟨kb23, kc23, -⟩ := LSN.read u21 d21 hgv
      refine mw_cV (fun _ => rfl) trivial (ar_fillL_ok (d := d) (v := (0 : Int64)) (a := 0) (b := wn) (o := some gq) kb23 (Nat.zero_le _) (by rw [show mu_n Q21 (mu_p (some gq)) = 256 from kc23]; omega) (by rw [show mu_n Q21 (mu_p (some gq)) = 256 from kc23]; decide)) (fun Q23 q23 => ?_)
      obtain ⟨u23, r23, z23, gk23, gl23, gf23⟩ := LSN.fill (C := C) (b := 0) (n := wn - 0) (g := fun _ => (0 : Int64)) u21 d21 hgv
      rw [show ml_fill Q21 gq 0 (fun _ => (0 : Int64)) (wn - 0) = Q23 from q23.symm] at u23 r23 z23 gk23 gl23 gf23
      have ht23 : ur m C H Q23 := ht21.trans r23
      obtain ⟨V23, d23⟩ : ∃ V, ud m Q23 = V := ⟨_, rfl⟩
      rw [d23] at z23 gk23 gl23 gf23
      have qf23 : uq F324 U V23 := hqv.tr z23 rfl
      have hcl0 : ∀ y, y < R → (V23.2.2.1 147 10).2 (y * 7 + 1) = nI (nv y) := fun y hy => by rw [z23.a 147 10 rfl]; exact (hnv y hy).1
      refine mw_go mu_g324 (k := 2) (f1 := (76, [(2, .inl (0 : Int32)), (1, .inl (nI r)), (0, .inr (.inr (some 147)))], [], Q23)) (C := []) rfl trivial ?_
      show mu_W _ _ (76, [(2, .inl (nI 0)), (1, .inl (nI r)), (0, .inr (.inr (some 147)))], [], Q23) _
      refine mw_sub (L' := [(2, .inl (nI 0)), (0, .inr (.inr (some 147))), (1, .inl (nI r))]) (by simp) ?_
      refine mw_down (α := Nat × mu_H) (fun zs => (76, [(2, .inl (nI zs.1)), (0, .inr (.inr (some 147))), (1, .inl (nI r))], [], zs.2)) (fun zs => T - zs.1) (fun zs => um m zs.2 ∧ ur m C H zs.2 ∧ (uq F324a V23 (ud m zs.2)) ∧ (zs.1 ≤ T) ∧ (LSN (ud m zs.2) ga gi gq 256) ∧ (GKP ga gi U (ud m zs.2)) ∧ (∀ t, t < 64 * wn → (bts (lgf (ud m zs.2) ga gi) t = true ↔ t < zs.1 ∧ nv (rx t) = 1))) (fun zs hza iha => ?_) (0, Q23) ⟨u23, ht23, (show uq F324a V23 (ud m Q23) from by rw [d23]; exact uq.refl _ _), (show 0 ≤ T from (Nat.zero_le _)), (show LSN (ud m Q23) ga gi gq 256 from by rw [d23]; exact gl23), (show GKP ga gi U (ud m Q23) from by rw [d23]; exact ((GKP.of_eq (fun p hp => rfl) rfl).trans gk23)), (show ∀ t, t < 64 * wn → (bts (lgf (ud m Q23) ga gi) t = true ↔ t < 0 ∧ nv (rx t) = 1) from by rw [d23]; exact (fun t ht => ⟨fun y => (by unfold bts at y; rw [gf23, if_pos ⟨Nat.zero_le _, by omega⟩, btz_0] at y; cases y), fun y => absurd y.1 (Nat.not_lt_zero t)⟩))⟩
      obtain ⟨x, Hsa⟩ := zs
      obtain ⟨ua, hta, da, hxT, hga, hka, hva⟩ := hza
      have ua : um m Hsa := ua
      have hta : ur m C H Hsa := hta
      have zza : uq F324a V23 (ud m Hsa) := da
      have hxT : x ≤ T := hxT
      have hga : LSN (ud m Hsa) ga gi gq 256 := hga
      have hka : GKP ga gi U (ud m Hsa) := hka
      have hva : ∀ t, t < 64 * wn → (bts (lgf (ud m Hsa) ga gi) t = true ↔ t < x ∧ nv (rx t) = 1) := hva
      obtain ⟨Va, da⟩ : ∃ V, ud m Hsa = V := ⟨_, rfl⟩
      rw [da] at zza hga hka hva
      have qfa : uq F324 U Va := qf23.tr zza rfl
      show mu_W _ _ (76, [(2, .inl (nI x)), (0, .inr (.inr (some 147))), (1, .inl (nI r))], [], Hsa) _
      refine mw_go mu_g324 (k := 3) (f1 := (81, [(2, .inl (nI x)), (0, .inr (.inr (some 147))), (1, .inl (nI r))], [.inr (.inr (mu_r Hsa 147 0)), .inl (nI x)], Hsa)) (C := [mu_is Hsa (some 147) 2]) rfl (show mu_is Hsa (some 147) 2 from (ua.1.1.is rfl)) ?_
      rw [(ua.1.1.r (p := 147) (j := 0) (q := 99) rfl)]
      refine mw_go mu_g324 (k := 1) (f1 := (84, [(2, .inl (nI x)), (0, .inr (.inr (some 147))), (1, .inl (nI r))], [.inl (mu_i Hsa 99 11), .inl (nI x)], Hsa)) (C := [mu_is Hsa (some 99) 13]) rfl (show mu_is Hsa (some 99) 13 from (ua.1.1.is rfl)) ?_
      rw [(show mu_i Hsa 99 11 = (nI T) from (ud_i (U := Va) (m := m) (P := 99) (j := 11) da rfl).trans ((zza.i 99 11 rfl).trans ((z23.i 99 11 rfl).trans hg11)))]
      refine mw_if (P := (nI x) < (nI T)) (a := 87) (b := 122) (fun _ => rfl) trivial (fun h24 => ?_) (fun h24 => ?_)
      · -- 87: (nI x) < (nI T)
        have nh24 : x < T := (nI_ltI (by omega) (by omega)).mp (show nI x < nI T from h24)
        refine mw_go mu_g324 (k := 2) (f1 := (91, [(2, .inl (nI x)), (0, .inr (.inr (some 147))), (1, .inl (nI r))], [.inr (.inr (mu_r Hsa 147 8))], Hsa)) (C := [mu_is Hsa (some 147) 2]) rfl (show mu_is Hsa (some 147) 2 from (ua.1.1.is rfl)) ?_
        rw [(show mu_r Hsa 147 8 = (some gq) from (ud_q (U := Va) (m := m) (P := 147) (j := 8) da rfl).trans ((zza.r 147 8 rfl).trans ((z23.r 147 8 rfl).trans hgo)))]
        refine mw_go mu_g324 (k := 3) (f1 := (95, [(2, .inl (nI x)), (0, .inr (.inr (some 147))), (1, .inl (nI r))], [.inl ((nI x) >>> ((6 : Int32) &&& 31)), .inr (.inr (some gq))], Hsa)) (C := []) rfl trivial ?_
        rw [(show ((nI x) >>> ((6 : Int32) &&& 31)) = (nI (x / 64)) from (nI_shr6 (a := x) (by omega)))]
        refine mw_go mu_g324 (k := 1) (f1 := (96, [(2, .inl (nI x)), (0, .inr (.inr (some 147))), (1, .inl (nI r))], [.inl (nI (x / 64)), .inr (.inr (some gq)), .inl (nI (x / 64)), .inr (.inr (some gq))], Hsa)) (C := []) rfl trivial ?_
        obtain ⟨kb25, kc25, kd25⟩ := LSN.read ua da hga
        refine mw_go mu_g324 (k := 1) (f1 := (97, [(2, .inl (nI x)), (0, .inr (.inr (some 147))), (1, .inl (nI r))], [.inr (.inl (mu_l Hsa gq (nI (x / 64)).toNatClampNeg)), .inl (nI (x / 64)), .inr (.inr (some gq))], Hsa)) (C := [mu_isr Hsa (some gq) 102, vp_in (nI (x / 64)) (mu_n Hsa gq)]) rfl (show (mu_isr Hsa (some gq) 102) ∧ (vp_in (nI (x / 64)) (mu_n Hsa gq)) from ⟨kb25.r, (by rw [kc25]; exact vp_in_nI (n := x / 64) (by omega) (by decide))⟩) ?_
        rw [(show (mu_l Hsa gq (nI (x / 64)).toNatClampNeg) = ((lgf Va ga gi) (x / 64)) from (congrArg (mu_l Hsa gq) (show (nI (x / 64)).toNatClampNeg = x / 64 from nI_clamp (by omega))).trans (kd25 (x / 64)))]
        refine mw_go mu_g324 (k := 3) (f1 := (102, [(2, .inl (nI x)), (0, .inr (.inr (some 147))), (1, .inl (nI r))], [.inr (.inr (mu_r Hsa 147 1)), .inr (.inr (some 147)), .inr (.inl ((lgf Va ga gi) (x / 64))), .inl (nI (x / 64)), .inr (.inr (some gq))], Hsa)) (C := [mu_is Hsa (some 147) 2]) rfl (show mu_is Hsa (some 147) 2 from (ua.1.1.is rfl)) ?_
        rw [(ua.1.1.r (p := 147) (j := 1) (q := 129) rfl)]
        refine mw_go mu_g324 (k := 1) (f1 := (105, [(2, .inl (nI x)), (0, .inr (.inr (some 147))), (1, .inl (nI r))], [.inr (.inr (mu_r Hsa 129 6)), .inr (.inr (some 147)), .inr (.inl ((lgf Va ga gi) (x / 64))), .inl (nI (x / 64)), .inr (.inr (some gq))], Hsa)) (C := [mu_is Hsa (some 129) 9]) rfl (show mu_is Hsa (some 129) 9 from (ua.1.1.is rfl)) ?_
        rw [(show mu_r Hsa 129 6 = (U.2.2.2.1 129 6) from (ud_q (U := Va) (m := m) (P := 129) (j := 6) da rfl).trans ((zza.r 129 6 rfl).trans (z23.r 129 6 rfl)))]
        refine mw_go mu_g324 (k := 2) (f1 := (107, [(2, .inl (nI x)), (0, .inr (.inr (some 147))), (1, .inl (nI r))], [.inl (mu_i Hsa (mu_p (U.2.2.2.1 129 6)) (nI x).toNatClampNeg), .inr (.inr (some 147)), .inr (.inl ((lgf Va ga gi) (x / 64))), .inl (nI (x / 64)), .inr (.inr (some gq))], Hsa)) (C := [mu_isr Hsa (U.2.2.2.1 129 6) 100, vp_in (nI x) (mu_n Hsa (mu_p (U.2.2.2.1 129 6)))]) rfl (show (mu_isr Hsa (U.2.2.2.1 129 6) 100) ∧ (vp_in (nI x) (mu_n Hsa (mu_p (U.2.2.2.1 129 6)))) from ⟨((ua.iA da rfl rfl (show Va.2.2.2.1 129 6 = (U.2.2.2.1 129 6) from ((zza.r 129 6 rfl).trans (z23.r 129 6 rfl))))).r, (ua.vA (i := x) da rfl rfl (show Va.2.2.2.1 129 6 = (U.2.2.2.1 129 6) from ((zza.r 129 6 rfl).trans (z23.r 129 6 rfl))) (show (Va.2.2.1 129 6).1 = (U.2.2.1 129 6).1 from ((zza.n 129 6 rfl).trans (z23.n 129 6 rfl))) (by omega) (by omega))⟩) ?_
        rw [(show (mu_i Hsa (mu_p (U.2.2.2.1 129 6)) (nI x).toNatClampNeg) = (nI (rx x)) from ((congrArg (mu_i Hsa (mu_p (U.2.2.2.1 129 6))) (show (nI x).toNatClampNeg = x from nI_clamp (by omega))).trans (ua.gA da rfl rfl (show Va.2.2.2.1 129 6 = (U.2.2.2.1 129 6) from ((zza.r 129 6 rfl).trans (z23.r 129 6 rfl))))).trans ((congrArg (fun z => z.2 x) (show Va.2.2.1 129 6 = (U.2.2.1 129 6) from ((zza.a 129 6 rfl).trans (z23.a 129 6 rfl)))).trans (hrx x (by omega)).1))]
        have hrxx : rx x < R := (hrx x (by omega)).2
        have hnx1 : nv (rx x) ≤ 1 := (hnv (rx x) hrxx).2.1
        refine mw_go mu_g324 (k := 1) (f1 := (108, [(2, .inl (nI x)), (0, .inr (.inr (some 147))), (1, .inl (nI r))], [.inl (1 : Int32), .inl (nI (rx x)), .inr (.inr (some 147)), .inr (.inl ((lgf Va ga gi) (x / 64))), .inl (nI (x / 64)), .inr (.inr (some gq))], Hsa)) (C := []) rfl trivial ?_
        refine mw_cIe (fun _ => rfl) (show mu_is Hsa (some 147) 2 from (ua.1.1.is rfl)) (gr_node (d := (d + 1)) (r := rx x) (c := 1) ua da (by (rw [(show (Va.2.2.1 147 10).1 = (U.2.2.1 147 10).1 from ((zza.n 147 10 rfl).trans (z23.n 147 10 rfl)))]; omega)) (by (rw [(show (Va.2.2.1 147 10).1 = (U.2.2.1 147 10).1 from ((zza.n 147 10 rfl).trans (z23.n 147 10 rfl)))]; omega))) ?_
        rw [show (Va.2.2.1 147 10).2 ((rx x) * 7 + 1) = nI (nv (rx x)) from (by rw [zza.a 147 10 rfl]; exact hcl0 (rx x) hrxx)]
        refine mw_go mu_g324 (k := 4) (f1 := (115, [(2, .inl (nI x)), (0, .inr (.inr (some 147))), (1, .inl (nI r))], [.inr (.inl (((lgf Va ga gi) (x / 64)) ||| (((nI (nv (rx x))).toInt64) <<< ((nI x).toInt64 &&& 63)))), .inl (nI (x / 64)), .inr (.inr (some gq))], Hsa)) (C := []) rfl trivial ?_
        obtain ⟨kb27, kc27, -⟩ := LSN.read ua da hga
        refine mw_go mu_g324 (k := 1) (f1 := (116, [(2, .inl (nI x)), (0, .inr (.inr (some 147))), (1, .inl (nI r))], [], (mu_sl Hsa gq (nI (x / 64)).toNatClampNeg (((lgf Va ga gi) (x / 64)) ||| (((nI (nv (rx x))).toInt64) <<< ((nI x).toInt64 &&& 63)))))) (C := [mu_is Hsa (some gq) 102, vp_in (nI (x / 64)) (mu_n Hsa gq)]) rfl (show (mu_is Hsa (some gq) 102) ∧ (vp_in (nI (x / 64)) (mu_n Hsa gq)) from ⟨kb27, (by rw [kc27]; exact vp_in_nI (n := x / 64) (by omega) (by decide))⟩) ?_
        rw [(show (nI (x / 64)).toNatClampNeg = x / 64 from nI_clamp (by omega))]
        obtain ⟨u27, r27, z27, gk27, gl27, gf27⟩ := LSN.write (C := C) (k := x / 64) (v := (((lgf Va ga gi) (x / 64)) ||| (((nI (nv (rx x))).toInt64) <<< ((nI x).toInt64 &&& 63)))) ua da hga
        generalize (mu_sl Hsa gq (x / 64) (((lgf Va ga gi) (x / 64)) ||| (((nI (nv (rx x))).toInt64) <<< ((nI x).toInt64 &&& 63)))) = Q27 at u27 r27 z27 gk27 gl27 gf27 ⊢
        obtain ⟨V27, d27⟩ : ∃ V, ud m Q27 = V := ⟨_, rfl⟩
        rw [d27] at z27 gk27 gl27 gf27
        have ht27 : ur m C H Q27 := hta.trans r27
        have qf27 : uq F324 U V27 := qfa.tr z27 rfl
        refine mw_go mu_g324 (k := 1) (f1 := (119, [(2, .inl ((nI x) + 1)), (0, .inr (.inr (some 147))), (1, .inl (nI r))], [], Q27)) (C := []) rfl trivial ?_
        rw [(show ((nI x) + 1) = (nI (x + 1)) from (nI_add x 1))]
        refine mw_go mu_g324 (k := 1) (f1 := (76, [(2, .inl (nI (x + 1))), (0, .inr (.inr (some 147))), (1, .inl (nI r))], [], Q27)) (C := []) rfl trivial ?_
        exact mw_sub (by simp) (iha (x + 1, Q27) ⟨u27, ht27, (show uq F324a V23 (ud m Q27) from by rw [d27]; exact (zza.tr z27 rfl)), (show (x + 1) ≤ T from (by omega)), (show LSN (ud m Q27) ga gi gq 256 from by rw [d27]; exact gl27), (show GKP ga gi U (ud m Q27) from by rw [d27]; exact (hka.trans gk27)), (show ∀ t, t < 64 * wn → (bts (lgf (ud m Q27) ga gi) t = true ↔ t < (x + 1) ∧ nv (rx t) = 1) from by rw [d27]; exact (fun t ht => by rw [show lgf V27 ga gi = _ from funext gf27, bts_put1 hnx1 (by omega), hva t ht]; exact ⟨fun z => (by rcases z with z | z; (exact ⟨by omega, z.2⟩); (exact ⟨by omega, by rw [z.2]; exact z.1⟩)), fun z => (by by_cases w : t = x; (exact Or.inr ⟨by rw [← w]; exact z.2, w⟩); (exact Or.inl ⟨by omega, z.2⟩))⟩))⟩ (by show T - (x + 1) < T - x; omega))
      · -- 122: not (nI x) < (nI T)
        have nh24 : ¬ x < T := fun z => h24 (show nI x < nI T from (nI_ltI (by omega) (by omega)).mpr z)
        refine mw_of (fun _ => mu_ret rfl trivial ⟨Hsa, rfl, ua, hta, (by rw [da]; exact qfa), Or.inr ⟨hrR1, (by rw [da]; exact (zza.i 147 15 rfl).trans (z23.i 147 15 rfl)), (by rw [da]; exact hka), (by rw [da]; exact hga), (by rw [da]; exact NKr (fun j hj => by rw [show (Va.2.2.1 147 10) = ((upI (upA U 147 10 (r * 7 + 1) (1 : Int32)) 147 15 (-1 : Int32)).2.2.1 147 10) from (zza.a 147 10 rfl).trans (z23.a 147 10 rfl)]; exact if_neg (by omega))), ?_⟩⟩)
        rw [da]
        intro t ht
        rw [hva t ht]
        exact ⟨fun y => ⟨by omega, (hnv (rx t) (hrx t (by omega)).2).2.2.mp y.2⟩, fun y => ⟨by omega, (hnv (rx t) (hrx t y.1).2).2.2.mpr y.2⟩⟩
def F322 : Uf := ⟨[], [(147, 9), (147, 14), (147, 15), (147, 16), (147, 20), (147, 21), (147, 22)], [], [(147, 8)], [148, 150, 151, 153, 162], true⟩
/-- what the PATH goes to: nothing where it goes on for ever -/
def rkt (U : Ud) (ga gi op : Nat) (i : Nat) : Int64 := if op = 12 then 0 else lgf U ga gi i &&& U.2.2.2.2.1 148 i
def rka (U : Ud) (ga gi op : Nat) (i : Nat) : Int64 := if op = 10 then rkt U ga gi op i else U.2.2.2.2.1 162 i &&& (rkt U ga gi op i ^^^ (-1 : Int64))
theorem lsf162 {w : Nat} (hk : GKP ga gi U V) (hl : LSN V ga gi gq 256) (h : lgf V ga gi w = lgf U ga gi w) : V.2.2.2.2.1 162 w = U.2.2.2.2.1 162 w := by
  by_cases y : ga = 0 ∧ gi = 162
  · obtain ⟨rfl, rfl⟩ := y
    exact h
  · rw [hk.1 162 (Or.inr rfl) y]
def F322a : Uf := ⟨[], [], [], [], [153, 148, 162], true⟩
/-- PathProver$Graph.reckon(I[J[J[J)V -/
abbrev mu_m322 : ev_M := (8, none, [], ev_b322)
theorem mu_g322 : mu_good mu_m322 := mu_goodk ev_k322
theorem gr_reckon {op : Nat} {FS : Nat → Nat → Bool} (h : um m H) (e : ud m H = U) (hG : GRB U T R wn rx mb me) (hF : FST U nf T FS) (hgl : LSN U ga gi gq 256) (hg48 : ¬ (ga = 0 ∧ gi = 148)) (hop : op = 10 ∨ op = 12 ∨ op = 28) (hAT : ∀ s, s < 64 * wn → bts (rka U ga gi op) s = true → s < T) (hRB : ∀ x t, RB x t → t < T) : mu_TV (mu_D (d + 5)) 322 [.inr (.inr (some 147)), .inl (nI op), .inr (.inr (some 162)), .inr (.inr (some gq)), .inr (.inr (some gq))] H (fun H1 => um m H1 ∧ ur m C H H1 ∧ uq F322 U (ud m H1) ∧ GKP ga gi U (ud m H1) ∧ ((op = 10 ∧ (ud m H1).2.1 147 14 = 1 ∧ (ud m H1).2.1 147 15 = nI 0 ∧ (ud m H1).2.2.2.1 147 8 = some gq ∧ LSN (ud m H1) ga gi gq 256 ∧ ∀ i, i < wn → (ud m H1).2.2.2.2.1 153 i = rka U ga gi op i) ∨ (¬ op = 10 ∧ ∃ ev, (ev = if op = 12 then 1 else 0) ∧ SWJ (ud m H1) T R wn rx mb me ga gi gq RB (fun t => t < T ∧ bts (rka U ga gi op) t = true) (fun t => t < T ∧ bts (rkt U ga gi op) t = true) ev nf FS (8 * R)))) := by
  obtain ⟨⟨⟨hg12, hg11⟩, hgwn, hTb⟩, ⟨⟨g6a, g6b⟩, hrx⟩, ⟨hRT, g10a, g10b⟩, ⟨g11a, g11b⟩, ⟨g12a, g12b⟩, ⟨g13a, g13b⟩, hmb, hme, hmp1, hmp2, hmp3, hmp4⟩ := id hG
  have hwnb : wn ≤ 256 := by omega
  have hg114 : ¬ ga = 114 := by
    rcases hgl with y | y
    · have := y.1; omega
    · have := y.1; omega
  refine mu_meth (M := mu_m322) rfl rfl ?_
  refine mw_ht (mu_fn_of (show [0, 1, 2, 3, 4].Nodup by decide)) ?_
  refine mw_go mu_g322 (k := 2) (f1 := (3, [(5, .inl (0 : Int32)), (0, .inr (.inr (some 147))), (1, .inl (nI op)), (2, .inr (.inr (some 162))), (3, .inr (.inr (some gq))), (4, .inr (.inr (some gq)))], [], H)) (C := []) rfl trivial ?_
  show mu_W _ _ (3, [(5, .inl (nI 0)), (0, .inr (.inr (some 147))), (1, .inl (nI op)), (2, .inr (.inr (some 162))), (3, .inr (.inr (some gq))), (4, .inr (.inr (some gq)))], [], H) _
  refine mw_sub (L' := [(5, .inl (nI 0)), (0, .inr (.inr (some 147))), (1, .inl (nI op)), (2, .inr (.inr (some 162))), (3, .inr (.inr (some gq))), (4, .inr (.inr (some gq)))]) (by simp) ?_
  refine mw_down (α := Nat × mu_H) (fun zs => (3, [(5, .inl (nI zs.1)), (0, .inr (.inr (some 147))), (1, .inl (nI op)), (2, .inr (.inr (some 162))), (3, .inr (.inr (some gq))), (4, .inr (.inr (some gq)))], [], zs.2)) (fun zs => wn - zs.1) (fun zs => um m zs.2 ∧ ur m C H zs.2 ∧ (uq F322a U (ud m zs.2)) ∧ (zs.1 ≤ wn) ∧ (LSN (ud m zs.2) ga gi gq 256) ∧ (GKP ga gi U (ud m zs.2)) ∧ ((ud m zs.2).2.2.2.2.1 148 = U.2.2.2.2.1 148) ∧ (∀ i, i < zs.1 → lgf (ud m zs.2) ga gi i = rkt U ga gi op i ∧ (ud m zs.2).2.2.2.2.1 153 i = rka U ga gi op i) ∧ (∀ i, zs.1 ≤ i → lgf (ud m zs.2) ga gi i = lgf U ga gi i)) (fun zs hza iha => ?_) (0, H) ⟨h, (ur.refl m C H), (show uq F322a U (ud m H) from by rw [e]; exact uq.refl _ _), (show 0 ≤ wn from (Nat.zero_le _)), (show LSN (ud m H) ga gi gq 256 from by rw [e]; exact hgl), (show GKP ga gi U (ud m H) from by rw [e]; exact (GKP.refl _ _ _)), (show (ud m H).2.2.2.2.1 148 = U.2.2.2.2.1 148 from by rw [e]), (show ∀ i, i < 0 → lgf (ud m H) ga gi i = rkt U ga gi op i ∧ (ud m H).2.2.2.2.1 153 i = rka U ga gi op i from by rw [e]; exact (fun i hi => absurd hi (Nat.not_lt_zero i))), (show ∀ i, 0 ≤ i → lgf (ud m H) ga gi i = lgf U ga gi i from by rw [e]; exact (fun i _ => rfl))⟩
  obtain ⟨w, Hsa⟩ := zs
  obtain ⟨ua, hta, da, hww, hga, hka, h48, hva, hvb⟩ := hza
  have ua : um m Hsa := ua
  have hta : ur m C H Hsa := hta
  have zza : uq F322a U (ud m Hsa) := da
  have hww : w ≤ wn := hww
  have hga : LSN (ud m Hsa) ga gi gq 256 := hga
  have hka : GKP ga gi U (ud m Hsa) := hka
  have h48 : (ud m Hsa).2.2.2.2.1 148 = U.2.2.2.2.1 148 := h48
  have hva : ∀ i, i < w → lgf (ud m Hsa) ga gi i = rkt U ga gi op i ∧ (ud m Hsa).2.2.2.2.1 153 i = rka U ga gi op i := hva
  have hvb : ∀ i, w ≤ i → lgf (ud m Hsa) ga gi i = lgf U ga gi i := hvb
  obtain ⟨Va, da⟩ : ∃ V, ud m Hsa = V := ⟨_, rfl⟩
  rw [da] at zza hga hka h48 hva hvb
  have qfa : uq F322 U Va := (uq.refl F322 U).tr zza rfl
  show mu_W _ _ (3, [(5, .inl (nI w)), (0, .inr (.inr (some 147))), (1, .inl (nI op)), (2, .inr (.inr (some 162))), (3, .inr (.inr (some gq))), (4, .inr (.inr (some gq)))], [], Hsa) _
  refine mw_go mu_g322 (k := 3) (f1 := (9, [(5, .inl (nI w)), (0, .inr (.inr (some 147))), (1, .inl (nI op)), (2, .inr (.inr (some 162))), (3, .inr (.inr (some gq))), (4, .inr (.inr (some gq)))], [.inr (.inr (mu_r Hsa 147 0)), .inl (nI w)], Hsa)) (C := [mu_is Hsa (some 147) 2]) rfl (show mu_is Hsa (some 147) 2 from (ua.1.1.is rfl)) ?_
  rw [(ua.1.1.r (p := 147) (j := 0) (q := 99) rfl)]
  refine mw_go mu_g322 (k := 1) (f1 := (12, [(5, .inl (nI w)), (0, .inr (.inr (some 147))), (1, .inl (nI op)), (2, .inr (.inr (some 162))), (3, .inr (.inr (some gq))), (4, .inr (.inr (some gq)))], [.inl (mu_i Hsa 99 12), .inl (nI w)], Hsa)) (C := [mu_is Hsa (some 99) 13]) rfl (show mu_is Hsa (some 99) 13 from (ua.1.1.is rfl)) ?_
  rw [(show mu_i Hsa 99 12 = (nI wn) from (ud_i (U := Va) (m := m) (P := 99) (j := 12) da rfl).trans ((zza.i 99 12 rfl).trans hg12))]
  refine mw_if (P := (nI w) < (nI wn)) (a := 15) (b := 81) (fun _ => rfl) trivial (fun h1 => ?_) (fun h1 => ?_)
  · -- 15: (nI w) < (nI wn)
    have nh1 : w < wn := (nI_ltI (by omega) (by omega)).mp (show nI w < nI wn from h1)
    refine mw_go mu_g322 (k := 2) (f1 := (18, [(5, .inl (nI w)), (0, .inr (.inr (some 147))), (1, .inl (nI op)), (2, .inr (.inr (some 162))), (3, .inr (.inr (some gq))), (4, .inr (.inr (some gq)))], [.inl (12 : Int32), .inl (nI op)], Hsa)) (C := []) rfl trivial ?_
    refine mw_if (P := (nI op) = (12 : Int32)) (a := 21) (b := 25) (fun _ => rfl) trivial (fun h2 => ?_) (fun h2 => ?_)
    · -- 21: (nI op) = (12 : Int32)
      have nh2 : op = 12 := (nI_eq (by omega) (by omega)).mp (show nI op = nI 12 from h2)
      refine mw_go mu_g322 (k := 2) (f1 := (37, [(5, .inl (nI w)), (0, .inr (.inr (some 147))), (1, .inl (nI op)), (2, .inr (.inr (some 162))), (3, .inr (.inr (some gq))), (4, .inr (.inr (some gq)))], [.inr (.inl (0 : Int64))], Hsa)) (C := []) rfl trivial ?_
      have htq : (0 : Int64) = rkt U ga gi op w := by unfold rkt; rw [if_pos (by omega)]
      refine mw_go mu_g322 (k := 3) (f1 := (43, [(6, .inr (.inl (0 : Int64))), (5, .inl (nI w)), (0, .inr (.inr (some 147))), (1, .inl (nI op)), (2, .inr (.inr (some 162))), (3, .inr (.inr (some gq))), (4, .inr (.inr (some gq)))], [.inr (.inr (mu_r Hsa 147 7))], Hsa)) (C := [mu_is Hsa (some 147) 2]) rfl (show mu_is Hsa (some 147) 2 from (ua.1.1.is rfl)) ?_
      rw [(ua.1.1.r (p := 147) (j := 7) (q := 153) rfl)]
      refine mw_go mu_g322 (k := 3) (f1 := (48, [(6, .inr (.inl (0 : Int64))), (5, .inl (nI w)), (0, .inr (.inr (some 147))), (1, .inl (nI op)), (2, .inr (.inr (some 162))), (3, .inr (.inr (some gq))), (4, .inr (.inr (some gq)))], [.inl (10 : Int32), .inl (nI op), .inl (nI w), .inr (.inr (some 153))], Hsa)) (C := []) rfl trivial ?_
      refine mw_if (P := (nI op) = (10 : Int32)) (a := 51) (b := 56) (fun _ => rfl) trivial (fun h3 => ?_) (fun h3 => ?_)
      · -- 51: (nI op) = (10 : Int32)
        have nh3 : op = 10 := (nI_eq (by omega) (by omega)).mp (show nI op = nI 10 from h3)
        refine mw_go mu_g322 (k := 2) (f1 := (67, [(6, .inr (.inl (0 : Int64))), (5, .inl (nI w)), (0, .inr (.inr (some 147))), (1, .inl (nI op)), (2, .inr (.inr (some 162))), (3, .inr (.inr (some gq))), (4, .inr (.inr (some gq)))], [.inr (.inl (0 : Int64)), .inl (nI w), .inr (.inr (some 153))], Hsa)) (C := []) rfl trivial ?_
        have haq : (0 : Int64) = rka U ga gi op w := by rw [htq]; unfold rka; rw [if_pos (by omega)]
        refine mw_go mu_g322 (k := 1) (f1 := (68, [(6, .inr (.inl (0 : Int64))), (5, .inl (nI w)), (0, .inr (.inr (some 147))), (1, .inl (nI op)), (2, .inr (.inr (some 162))), (3, .inr (.inr (some gq))), (4, .inr (.inr (some gq)))], [], (mu_sl Hsa 153 (nI w).toNatClampNeg (0 : Int64)))) (C := [mu_is Hsa (some 153) 102, vp_in (nI w) (mu_n Hsa 153)]) rfl (show (mu_is Hsa (some 153) 102) ∧ (vp_in (nI w) (mu_n Hsa 153)) from ⟨((ua.1.1.a (p := 153) (x := (102, 256)) rfl).1), (by rw [show mu_n Hsa 153 = 256 from (ua.1.1.a (p := 153) (x := (102, 256)) rfl).2]; exact vp_in_nI (n := w) (by omega) (by decide))⟩) ?_
        rw [(show (nI w).toNatClampNeg = w from nI_clamp (by omega))]
        obtain ⟨u4, r4, d4⟩ : um m (mu_sl Hsa 153 w (0 : Int64)) ∧ ur m C Hsa (mu_sl Hsa 153 w (0 : Int64)) ∧ ud m (mu_sl Hsa 153 w (0 : Int64)) = (upL Va 153 w (0 : Int64)) := ua.sL (C := C) da rfl
        generalize (mu_sl Hsa 153 w (0 : Int64)) = Q4 at u4 r4 d4 ⊢
        have qf4 : uq F322 U (upL Va 153 w (0 : Int64)) := qfa.L rfl
        have ht4 : ur m C H Q4 := hta.trans r4
        refine mw_go mu_g322 (k := 3) (f1 := (74, [(6, .inr (.inl (0 : Int64))), (5, .inl (nI w)), (0, .inr (.inr (some 147))), (1, .inl (nI op)), (2, .inr (.inr (some 162))), (3, .inr (.inr (some gq))), (4, .inr (.inr (some gq)))], [.inr (.inl (0 : Int64)), .inl (nI w), .inr (.inr (some gq))], Q4)) (C := []) rfl trivial ?_
        obtain ⟨kb5, kc5, -⟩ := LSN.read u4 d4 (hga.keep (fun b c hb => by rcases hb with rfl | rfl <;> rfl) rfl)
        refine mw_go mu_g322 (k := 1) (f1 := (75, [(6, .inr (.inl (0 : Int64))), (5, .inl (nI w)), (0, .inr (.inr (some 147))), (1, .inl (nI op)), (2, .inr (.inr (some 162))), (3, .inr (.inr (some gq))), (4, .inr (.inr (some gq)))], [], (mu_sl Q4 gq (nI w).toNatClampNeg (0 : Int64)))) (C := [mu_is Q4 (some gq) 102, vp_in (nI w) (mu_n Q4 gq)]) rfl (show (mu_is Q4 (some gq) 102) ∧ (vp_in (nI w) (mu_n Q4 gq)) from ⟨kb5, (by rw [kc5]; exact vp_in_nI (n := w) (by omega) (by decide))⟩) ?_
        rw [(show (nI w).toNatClampNeg = w from nI_clamp (by omega))]
        obtain ⟨u5, r5, z5, gk5, gl5, gf5⟩ := LSN.write (C := C) (k := w) (v := (0 : Int64)) u4 d4 (hga.keep (fun b c hb => by rcases hb with rfl | rfl <;> rfl) rfl)
        generalize (mu_sl Q4 gq w (0 : Int64)) = Q5 at u5 r5 z5 gk5 gl5 gf5 ⊢
        obtain ⟨V5, d5⟩ : ∃ V, ud m Q5 = V := ⟨_, rfl⟩
        rw [d5] at z5 gk5 gl5 gf5
        have ht5 : ur m C H Q5 := ht4.trans r5
        have qf5 : uq F322 U V5 := qf4.tr z5 rfl
        refine mw_go mu_g322 (k := 1) (f1 := (78, [(5, .inl ((nI w) + 1)), (6, .inr (.inl (0 : Int64))), (0, .inr (.inr (some 147))), (1, .inl (nI op)), (2, .inr (.inr (some 162))), (3, .inr (.inr (some gq))), (4, .inr (.inr (some gq)))], [], Q5)) (C := []) rfl trivial ?_
        rw [(show ((nI w) + 1) = (nI (w + 1)) from (nI_add w 1))]
        refine mw_go mu_g322 (k := 1) (f1 := (3, [(5, .inl (nI (w + 1))), (6, .inr (.inl (0 : Int64))), (0, .inr (.inr (some 147))), (1, .inl (nI op)), (2, .inr (.inr (some 162))), (3, .inr (.inr (some gq))), (4, .inr (.inr (some gq)))], [], Q5)) (C := []) rfl trivial ?_
        exact mw_sub (by simp) (iha (w + 1, Q5) ⟨u5, ht5, (show uq F322a U (ud m Q5) from by rw [d5]; exact ((zza.L rfl).tr z5 rfl)), (show (w + 1) ≤ wn from (by omega)), (show LSN (ud m Q5) ga gi gq 256 from by rw [d5]; exact gl5), (show GKP ga gi U (ud m Q5) from by rw [d5]; exact (hka.trans ((GKP.of_eq (fun p hp => upL_ne (by omega)) rfl).trans gk5))), (show (ud m Q5).2.2.2.2.1 148 = U.2.2.2.2.1 148 from by rw [d5]; exact (by rw [show V5.2.2.2.2.1 148 = (upL Va 153 w (0 : Int64)).2.2.2.2.1 148 from gk5.1 148 (Or.inl rfl) hg48, upL_ne (by decide)]; exact h48)), (show ∀ i, i < (w + 1) → lgf (ud m Q5) ga gi i = rkt U ga gi op i ∧ (ud m Q5).2.2.2.2.1 153 i = rka U ga gi op i from by rw [d5]; exact (fun i hi => by rw [gf5, (show lgf (upL Va 153 w (0 : Int64)) ga gi = lgf Va ga gi from lsf_of_eq (fun p hp => upL_ne (by omega)) rfl hga), show V5.2.2.2.2.1 153 = (upL Va 153 w (0 : Int64)).2.2.2.2.1 153 from z5.l 153 rfl, upL_at]; by_cases y : i = w; (rw [if_pos y, y]; exact ⟨htq, by show (if w = w then (0 : Int64) else _) = _; rw [if_pos rfl]; exact haq⟩); (rw [if_neg y]; exact ⟨(hva i (by omega)).1, by show (if i = w then (0 : Int64) else _) = _; rw [if_neg y]; exact (hva i (by omega)).2⟩))), (show ∀ i, (w + 1) ≤ i → lgf (ud m Q5) ga gi i = lgf U ga gi i from by rw [d5]; exact (fun i hi => by rw [gf5, (show lgf (upL Va 153 w (0 : Int64)) ga gi = lgf Va ga gi from lsf_of_eq (fun p hp => upL_ne (by omega)) rfl hga), if_neg (by omega)]; exact hvb i (by omega)))⟩ (by show wn - (w + 1) < wn - w; omega))
      · -- 56: not (nI op) = (10 : Int32)
        have nh3 : ¬ op = 10 := fun z => h3 (show nI op = nI 10 from (nI_eq (by omega) (by omega)).mpr z)
        refine mw_go mu_g322 (k := 3) (f1 := (60, [(6, .inr (.inl (0 : Int64))), (5, .inl (nI w)), (0, .inr (.inr (some 147))), (1, .inl (nI op)), (2, .inr (.inr (some 162))), (3, .inr (.inr (some gq))), (4, .inr (.inr (some gq)))], [.inr (.inl (mu_l Hsa 162 (nI w).toNatClampNeg)), .inl (nI w), .inr (.inr (some 153))], Hsa)) (C := [mu_isr Hsa (some 162) 102, vp_in (nI w) (mu_n Hsa 162)]) rfl (show (mu_isr Hsa (some 162) 102) ∧ (vp_in (nI w) (mu_n Hsa 162)) from ⟨((ua.1.1.a (p := 162) (x := (102, 256)) rfl).1).r, (by rw [show mu_n Hsa 162 = 256 from (ua.1.1.a (p := 162) (x := (102, 256)) rfl).2]; exact vp_in_nI (n := w) (by omega) (by decide))⟩) ?_
        rw [(show (mu_l Hsa 162 (nI w).toNatClampNeg) = (Va.2.2.2.2.1 162) w from (congrArg (mu_l Hsa 162) (show (nI w).toNatClampNeg = w from nI_clamp (by omega))).trans ((ud_l (m := m) (p := 162) (i := w) da rfl).trans (congrFun (show Va.2.2.2.2.1 162 = (Va.2.2.2.2.1 162) from rfl) w)))]
        refine mw_go mu_g322 (k := 4) (f1 := (67, [(6, .inr (.inl (0 : Int64))), (5, .inl (nI w)), (0, .inr (.inr (some 147))), (1, .inl (nI op)), (2, .inr (.inr (some 162))), (3, .inr (.inr (some gq))), (4, .inr (.inr (some gq)))], [.inr (.inl (((Va.2.2.2.2.1 162) w) &&& ((0 : Int64) ^^^ (-1 : Int64)))), .inl (nI w), .inr (.inr (some 153))], Hsa)) (C := []) rfl trivial ?_
        obtain ⟨am0, ham0⟩ : ∃ y, y = (((Va.2.2.2.2.1 162) w) &&& ((0 : Int64) ^^^ (-1 : Int64))) := ⟨_, rfl⟩
        rw [← ham0]
        have haq : am0 = rka U ga gi op w := by rw [ham0, htq, lsf162 hka hga (hvb w (Nat.le_refl _))]; unfold rka; rw [if_neg (by omega)]
        refine mw_go mu_g322 (k := 1) (f1 := (68, [(6, .inr (.inl (0 : Int64))), (5, .inl (nI w)), (0, .inr (.inr (some 147))), (1, .inl (nI op)), (2, .inr (.inr (some 162))), (3, .inr (.inr (some gq))), (4, .inr (.inr (some gq)))], [], (mu_sl Hsa 153 (nI w).toNatClampNeg am0))) (C := [mu_is Hsa (some 153) 102, vp_in (nI w) (mu_n Hsa 153)]) rfl (show (mu_is Hsa (some 153) 102) ∧ (vp_in (nI w) (mu_n Hsa 153)) from ⟨((ua.1.1.a (p := 153) (x := (102, 256)) rfl).1), (by rw [show mu_n Hsa 153 = 256 from (ua.1.1.a (p := 153) (x := (102, 256)) rfl).2]; exact vp_in_nI (n := w) (by omega) (by decide))⟩) ?_
        rw [(show (nI w).toNatClampNeg = w from nI_clamp (by omega))]
        obtain ⟨u6, r6, d6⟩ : um m (mu_sl Hsa 153 w am0) ∧ ur m C Hsa (mu_sl Hsa 153 w am0) ∧ ud m (mu_sl Hsa 153 w am0) = (upL Va 153 w am0) := ua.sL (C := C) da rfl
        generalize (mu_sl Hsa 153 w am0) = Q6 at u6 r6 d6 ⊢
        have qf6 : uq F322 U (upL Va 153 w am0) := qfa.L rfl
        have ht6 : ur m C H Q6 := hta.trans r6
        refine mw_go mu_g322 (k := 3) (f1 := (74, [(6, .inr (.inl (0 : Int64))), (5, .inl (nI w)), (0, .inr (.inr (some 147))), (1, .inl (nI op)), (2, .inr (.inr (some 162))), (3, .inr (.inr (some gq))), (4, .inr (.inr (some gq)))], [.inr (.inl (0 : Int64)), .inl (nI w), .inr (.inr (some gq))], Q6)) (C := []) rfl trivial ?_
        obtain ⟨kb7, kc7, -⟩ := LSN.read u6 d6 (hga.keep (fun b c hb => by rcases hb with rfl | rfl <;> rfl) rfl)
        refine mw_go mu_g322 (k := 1) (f1 := (75, [(6, .inr (.inl (0 : Int64))), (5, .inl (nI w)), (0, .inr (.inr (some 147))), (1, .inl (nI op)), (2, .inr (.inr (some 162))), (3, .inr (.inr (some gq))), (4, .inr (.inr (some gq)))], [], (mu_sl Q6 gq (nI w).toNatClampNeg (0 : Int64)))) (C := [mu_is Q6 (some gq) 102, vp_in (nI w) (mu_n Q6 gq)]) rfl (show (mu_is Q6 (some gq) 102) ∧ (vp_in (nI w) (mu_n Q6 gq)) from ⟨kb7, (by rw [kc7]; exact vp_in_nI (n := w) (by omega) (by decide))⟩) ?_
        rw [(show (nI w).toNatClampNeg = w from nI_clamp (by omega))]
        obtain ⟨u7, r7, z7, gk7, gl7, gf7⟩ := LSN.write (C := C) (k := w) (v := (0 : Int64)) u6 d6 (hga.keep (fun b c hb => by rcases hb with rfl | rfl <;> rfl) rfl)
        generalize (mu_sl Q6 gq w (0 : Int64)) = Q7 at u7 r7 z7 gk7 gl7 gf7 ⊢
        obtain ⟨V7, d7⟩ : ∃ V, ud m Q7 = V := ⟨_, rfl⟩
        rw [d7] at z7 gk7 gl7 gf7
        have ht7 : ur m C H Q7 := ht6.trans r7
        have qf7 : uq F322 U V7 := qf6.tr z7 rfl
        refine mw_go mu_g322 (k := 1) (f1 := (78, [(5, .inl ((nI w) + 1)), (6, .inr (.inl (0 : Int64))), (0, .inr (.inr (some 147))), (1, .inl (nI op)), (2, .inr (.inr (some 162))), (3, .inr (.inr (some gq))), (4, .inr (.inr (some gq)))], [], Q7)) (C := []) rfl trivial ?_
        rw [(show ((nI w) + 1) = (nI (w + 1)) from (nI_add w 1))]
        refine mw_go mu_g322 (k := 1) (f1 := (3, [(5, .inl (nI (w + 1))), (6, .inr (.inl (0 : Int64))), (0, .inr (.inr (some 147))), (1, .inl (nI op)), (2, .inr (.inr (some 162))), (3, .inr (.inr (some gq))), (4, .inr (.inr (some gq)))], [], Q7)) (C := []) rfl trivial ?_
        exact mw_sub (by simp) (iha (w + 1, Q7) ⟨u7, ht7, (show uq F322a U (ud m Q7) from by rw [d7]; exact ((zza.L rfl).tr z7 rfl)), (show (w + 1) ≤ wn from (by omega)), (show LSN (ud m Q7) ga gi gq 256 from by rw [d7]; exact gl7), (show GKP ga gi U (ud m Q7) from by rw [d7]; exact (hka.trans ((GKP.of_eq (fun p hp => upL_ne (by omega)) rfl).trans gk7))), (show (ud m Q7).2.2.2.2.1 148 = U.2.2.2.2.1 148 from by rw [d7]; exact (by rw [show V7.2.2.2.2.1 148 = (upL Va 153 w am0).2.2.2.2.1 148 from gk7.1 148 (Or.inl rfl) hg48, upL_ne (by decide)]; exact h48)), (show ∀ i, i < (w + 1) → lgf (ud m Q7) ga gi i = rkt U ga gi op i ∧ (ud m Q7).2.2.2.2.1 153 i = rka U ga gi op i from by rw [d7]; exact (fun i hi => by rw [gf7, (show lgf (upL Va 153 w am0) ga gi = lgf Va ga gi from lsf_of_eq (fun p hp => upL_ne (by omega)) rfl hga), show V7.2.2.2.2.1 153 = (upL Va 153 w am0).2.2.2.2.1 153 from z7.l 153 rfl, upL_at]; by_cases y : i = w; (rw [if_pos y, y]; exact ⟨htq, by show (if w = w then am0 else _) = _; rw [if_pos rfl]; exact haq⟩); (rw [if_neg y]; exact ⟨(hva i (by omega)).1, by show (if i = w then am0 else _) = _; rw [if_neg y]; exact (hva i (by omega)).2⟩))), (show ∀ i, (w + 1) ≤ i → lgf (ud m Q7) ga gi i = lgf U ga gi i from by rw [d7]; exact (fun i hi => by rw [gf7, (show lgf (upL Va 153 w am0) ga gi = lgf Va ga gi from lsf_of_eq (fun p hp => upL_ne (by omega)) rfl hga), if_neg (by omega)]; exact hvb i (by omega)))⟩ (by show wn - (w + 1) < wn - w; omega))
    · -- 25: not (nI op) = (12 : Int32)
      have nh2 : ¬ op = 12 := fun z => h2 (show nI op = nI 12 from (nI_eq (by omega) (by omega)).mpr z)
      refine mw_go mu_g322 (k := 2) (f1 := (28, [(5, .inl (nI w)), (0, .inr (.inr (some 147))), (1, .inl (nI op)), (2, .inr (.inr (some 162))), (3, .inr (.inr (some gq))), (4, .inr (.inr (some gq)))], [.inl (nI w), .inr (.inr (some gq))], Hsa)) (C := []) rfl trivial ?_
      obtain ⟨kb8, kc8, kd8⟩ := LSN.read ua da hga
      refine mw_go mu_g322 (k := 1) (f1 := (29, [(5, .inl (nI w)), (0, .inr (.inr (some 147))), (1, .inl (nI op)), (2, .inr (.inr (some 162))), (3, .inr (.inr (some gq))), (4, .inr (.inr (some gq)))], [.inr (.inl (mu_l Hsa gq (nI w).toNatClampNeg))], Hsa)) (C := [mu_isr Hsa (some gq) 102, vp_in (nI w) (mu_n Hsa gq)]) rfl (show (mu_isr Hsa (some gq) 102) ∧ (vp_in (nI w) (mu_n Hsa gq)) from ⟨kb8.r, (by rw [kc8]; exact vp_in_nI (n := w) (by omega) (by decide))⟩) ?_
      rw [(show (mu_l Hsa gq (nI w).toNatClampNeg) = ((lgf Va ga gi) w) from (congrArg (mu_l Hsa gq) (show (nI w).toNatClampNeg = w from nI_clamp (by omega))).trans (kd8 w))]
      refine mw_go mu_g322 (k := 2) (f1 := (33, [(5, .inl (nI w)), (0, .inr (.inr (some 147))), (1, .inl (nI op)), (2, .inr (.inr (some 162))), (3, .inr (.inr (some gq))), (4, .inr (.inr (some gq)))], [.inr (.inr (mu_r Hsa 147 2)), .inr (.inl ((lgf Va ga gi) w))], Hsa)) (C := [mu_is Hsa (some 147) 2]) rfl (show mu_is Hsa (some 147) 2 from (ua.1.1.is rfl)) ?_
      rw [(ua.1.1.r (p := 147) (j := 2) (q := 148) rfl)]
      refine mw_go mu_g322 (k := 2) (f1 := (36, [(5, .inl (nI w)), (0, .inr (.inr (some 147))), (1, .inl (nI op)), (2, .inr (.inr (some 162))), (3, .inr (.inr (some gq))), (4, .inr (.inr (some gq)))], [.inr (.inl (mu_l Hsa 148 (nI w).toNatClampNeg)), .inr (.inl ((lgf Va ga gi) w))], Hsa)) (C := [mu_isr Hsa (some 148) 102, vp_in (nI w) (mu_n Hsa 148)]) rfl (show (mu_isr Hsa (some 148) 102) ∧ (vp_in (nI w) (mu_n Hsa 148)) from ⟨((ua.1.1.a (p := 148) (x := (102, 256)) rfl).1).r, (by rw [show mu_n Hsa 148 = 256 from (ua.1.1.a (p := 148) (x := (102, 256)) rfl).2]; exact vp_in_nI (n := w) (by omega) (by decide))⟩) ?_
      rw [(show (mu_l Hsa 148 (nI w).toNatClampNeg) = (Va.2.2.2.2.1 148) w from (congrArg (mu_l Hsa 148) (show (nI w).toNatClampNeg = w from nI_clamp (by omega))).trans ((ud_l (m := m) (p := 148) (i := w) da rfl).trans (congrFun (show Va.2.2.2.2.1 148 = (Va.2.2.2.2.1 148) from rfl) w)))]
      refine mw_go mu_g322 (k := 1) (f1 := (37, [(5, .inl (nI w)), (0, .inr (.inr (some 147))), (1, .inl (nI op)), (2, .inr (.inr (some 162))), (3, .inr (.inr (some gq))), (4, .inr (.inr (some gq)))], [.inr (.inl (((lgf Va ga gi) w) &&& ((Va.2.2.2.2.1 148) w)))], Hsa)) (C := []) rfl trivial ?_
      obtain ⟨th0, hth0⟩ : ∃ y, y = (((lgf Va ga gi) w) &&& ((Va.2.2.2.2.1 148) w)) := ⟨_, rfl⟩
      rw [← hth0]
      have htq : th0 = rkt U ga gi op w := by rw [hth0]; unfold rkt; rw [if_neg (by omega), hvb w (Nat.le_refl _), h48]
      refine mw_go mu_g322 (k := 3) (f1 := (43, [(6, .inr (.inl th0)), (5, .inl (nI w)), (0, .inr (.inr (some 147))), (1, .inl (nI op)), (2, .inr (.inr (some 162))), (3, .inr (.inr (some gq))), (4, .inr (.inr (some gq)))], [.inr (.inr (mu_r Hsa 147 7))], Hsa)) (C := [mu_is Hsa (some 147) 2]) rfl (show mu_is Hsa (some 147) 2 from (ua.1.1.is rfl)) ?_
      rw [(ua.1.1.r (p := 147) (j := 7) (q := 153) rfl)]
      refine mw_go mu_g322 (k := 3) (f1 := (48, [(6, .inr (.inl th0)), (5, .inl (nI w)), (0, .inr (.inr (some 147))), (1, .inl (nI op)), (2, .inr (.inr (some 162))), (3, .inr (.inr (some gq))), (4, .inr (.inr (some gq)))], [.inl (10 : Int32), .inl (nI op), .inl (nI w), .inr (.inr (some 153))], Hsa)) (C := []) rfl trivial ?_
      refine mw_if (P := (nI op) = (10 : Int32)) (a := 51) (b := 56) (fun _ => rfl) trivial (fun h9 => ?_) (fun h9 => ?_)
      · -- 51: (nI op) = (10 : Int32)
        have nh9 : op = 10 := (nI_eq (by omega) (by omega)).mp (show nI op = nI 10 from h9)
        refine mw_go mu_g322 (k := 2) (f1 := (67, [(6, .inr (.inl th0)), (5, .inl (nI w)), (0, .inr (.inr (some 147))), (1, .inl (nI op)), (2, .inr (.inr (some 162))), (3, .inr (.inr (some gq))), (4, .inr (.inr (some gq)))], [.inr (.inl th0), .inl (nI w), .inr (.inr (some 153))], Hsa)) (C := []) rfl trivial ?_
        have haq : th0 = rka U ga gi op w := by rw [htq]; unfold rka; rw [if_pos (by omega)]
        refine mw_go mu_g322 (k := 1) (f1 := (68, [(6, .inr (.inl th0)), (5, .inl (nI w)), (0, .inr (.inr (some 147))), (1, .inl (nI op)), (2, .inr (.inr (some 162))), (3, .inr (.inr (some gq))), (4, .inr (.inr (some gq)))], [], (mu_sl Hsa 153 (nI w).toNatClampNeg th0))) (C := [mu_is Hsa (some 153) 102, vp_in (nI w) (mu_n Hsa 153)]) rfl (show (mu_is Hsa (some 153) 102) ∧ (vp_in (nI w) (mu_n Hsa 153)) from ⟨((ua.1.1.a (p := 153) (x := (102, 256)) rfl).1), (by rw [show mu_n Hsa 153 = 256 from (ua.1.1.a (p := 153) (x := (102, 256)) rfl).2]; exact vp_in_nI (n := w) (by omega) (by decide))⟩) ?_
        rw [(show (nI w).toNatClampNeg = w from nI_clamp (by omega))]
        obtain ⟨u10, r10, d10⟩ : um m (mu_sl Hsa 153 w th0) ∧ ur m C Hsa (mu_sl Hsa 153 w th0) ∧ ud m (mu_sl Hsa 153 w th0) = (upL Va 153 w th0) := ua.sL (C := C) da rfl
        generalize (mu_sl Hsa 153 w th0) = Q10 at u10 r10 d10 ⊢
        have qf10 : uq F322 U (upL Va 153 w th0) := qfa.L rfl
        have ht10 : ur m C H Q10 := hta.trans r10
        refine mw_go mu_g322 (k := 3) (f1 := (74, [(6, .inr (.inl th0)), (5, .inl (nI w)), (0, .inr (.inr (some 147))), (1, .inl (nI op)), (2, .inr (.inr (some 162))), (3, .inr (.inr (some gq))), (4, .inr (.inr (some gq)))], [.inr (.inl th0), .inl (nI w), .inr (.inr (some gq))], Q10)) (C := []) rfl trivial ?_
        obtain ⟨kb11, kc11, -⟩ := LSN.read u10 d10 (hga.keep (fun b c hb => by rcases hb with rfl | rfl <;> rfl) rfl)
        refine mw_go mu_g322 (k := 1) (f1 := (75, [(6, .inr (.inl th0)), (5, .inl (nI w)), (0, .inr (.inr (some 147))), (1, .inl (nI op)), (2, .inr (.inr (some 162))), (3, .inr (.inr (some gq))), (4, .inr (.inr (some gq)))], [], (mu_sl Q10 gq (nI w).toNatClampNeg th0))) (C := [mu_is Q10 (some gq) 102, vp_in (nI w) (mu_n Q10 gq)]) rfl (show (mu_is Q10 (some gq) 102) ∧ (vp_in (nI w) (mu_n Q10 gq)) from ⟨kb11, (by rw [kc11]; exact vp_in_nI (n := w) (by omega) (by decide))⟩) ?_
        rw [(show (nI w).toNatClampNeg = w from nI_clamp (by omega))]
        obtain ⟨u11, r11, z11, gk11, gl11, gf11⟩ := LSN.write (C := C) (k := w) (v := th0) u10 d10 (hga.keep (fun b c hb => by rcases hb with rfl | rfl <;> rfl) rfl)
        generalize (mu_sl Q10 gq w th0) = Q11 at u11 r11 z11 gk11 gl11 gf11 ⊢
        obtain ⟨V11, d11⟩ : ∃ V, ud m Q11 = V := ⟨_, rfl⟩
        rw [d11] at z11 gk11 gl11 gf11
        have ht11 : ur m C H Q11 := ht10.trans r11
        have qf11 : uq F322 U V11 := qf10.tr z11 rfl
        refine mw_go mu_g322 (k := 1) (f1 := (78, [(5, .inl ((nI w) + 1)), (6, .inr (.inl th0)), (0, .inr (.inr (some 147))), (1, .inl (nI op)), (2, .inr (.inr (some 162))), (3, .inr (.inr (some gq))), (4, .inr (.inr (some gq)))], [], Q11)) (C := []) rfl trivial ?_
        rw [(show ((nI w) + 1) = (nI (w + 1)) from (nI_add w 1))]
        refine mw_go mu_g322 (k := 1) (f1 := (3, [(5, .inl (nI (w + 1))), (6, .inr (.inl th0)), (0, .inr (.inr (some 147))), (1, .inl (nI op)), (2, .inr (.inr (some 162))), (3, .inr (.inr (some gq))), (4, .inr (.inr (some gq)))], [], Q11)) (C := []) rfl trivial ?_
        exact mw_sub (by simp) (iha (w + 1, Q11) ⟨u11, ht11, (show uq F322a U (ud m Q11) from by rw [d11]; exact ((zza.L rfl).tr z11 rfl)), (show (w + 1) ≤ wn from (by omega)), (show LSN (ud m Q11) ga gi gq 256 from by rw [d11]; exact gl11), (show GKP ga gi U (ud m Q11) from by rw [d11]; exact (hka.trans ((GKP.of_eq (fun p hp => upL_ne (by omega)) rfl).trans gk11))), (show (ud m Q11).2.2.2.2.1 148 = U.2.2.2.2.1 148 from by rw [d11]; exact (by rw [show V11.2.2.2.2.1 148 = (upL Va 153 w th0).2.2.2.2.1 148 from gk11.1 148 (Or.inl rfl) hg48, upL_ne (by decide)]; exact h48)), (show ∀ i, i < (w + 1) → lgf (ud m Q11) ga gi i = rkt U ga gi op i ∧ (ud m Q11).2.2.2.2.1 153 i = rka U ga gi op i from by rw [d11]; exact (fun i hi => by rw [gf11, (show lgf (upL Va 153 w th0) ga gi = lgf Va ga gi from lsf_of_eq (fun p hp => upL_ne (by omega)) rfl hga), show V11.2.2.2.2.1 153 = (upL Va 153 w th0).2.2.2.2.1 153 from z11.l 153 rfl, upL_at]; by_cases y : i = w; (rw [if_pos y, y]; exact ⟨htq, by show (if w = w then th0 else _) = _; rw [if_pos rfl]; exact haq⟩); (rw [if_neg y]; exact ⟨(hva i (by omega)).1, by show (if i = w then th0 else _) = _; rw [if_neg y]; exact (hva i (by omega)).2⟩))), (show ∀ i, (w + 1) ≤ i → lgf (ud m Q11) ga gi i = lgf U ga gi i from by rw [d11]; exact (fun i hi => by rw [gf11, (show lgf (upL Va 153 w th0) ga gi = lgf Va ga gi from lsf_of_eq (fun p hp => upL_ne (by omega)) rfl hga), if_neg (by omega)]; exact hvb i (by omega)))⟩ (by show wn - (w + 1) < wn - w; omega))
      · -- 56: not (nI op) = (10 : Int32)
        have nh9 : ¬ op = 10 := fun z => h9 (show nI op = nI 10 from (nI_eq (by omega) (by omega)).mpr z)
        refine mw_go mu_g322 (k := 3) (f1 := (60, [(6, .inr (.inl th0)), (5, .inl (nI w)), (0, .inr (.inr (some 147))), (1, .inl (nI op)), (2, .inr (.inr (some 162))), (3, .inr (.inr (some gq))), (4, .inr (.inr (some gq)))], [.inr (.inl (mu_l Hsa 162 (nI w).toNatClampNeg)), .inl (nI w), .inr (.inr (some 153))], Hsa)) (C := [mu_isr Hsa (some 162) 102, vp_in (nI w) (mu_n Hsa 162)]) rfl (show (mu_isr Hsa (some 162) 102) ∧ (vp_in (nI w) (mu_n Hsa 162)) from ⟨((ua.1.1.a (p := 162) (x := (102, 256)) rfl).1).r, (by rw [show mu_n Hsa 162 = 256 from (ua.1.1.a (p := 162) (x := (102, 256)) rfl).2]; exact vp_in_nI (n := w) (by omega) (by decide))⟩) ?_
        rw [(show (mu_l Hsa 162 (nI w).toNatClampNeg) = (Va.2.2.2.2.1 162) w from (congrArg (mu_l Hsa 162) (show (nI w).toNatClampNeg = w from nI_clamp (by omega))).trans ((ud_l (m := m) (p := 162) (i := w) da rfl).trans (congrFun (show Va.2.2.2.2.1 162 = (Va.2.2.2.2.1 162) from rfl) w)))]
        refine mw_go mu_g322 (k := 4) (f1 := (67, [(6, .inr (.inl th0)), (5, .inl (nI w)), (0, .inr (.inr (some 147))), (1, .inl (nI op)), (2, .inr (.inr (some 162))), (3, .inr (.inr (some gq))), (4, .inr (.inr (some gq)))], [.inr (.inl (((Va.2.2.2.2.1 162) w) &&& (th0 ^^^ (-1 : Int64)))), .inl (nI w), .inr (.inr (some 153))], Hsa)) (C := []) rfl trivial ?_
        obtain ⟨am0, ham0⟩ : ∃ y, y = (((Va.2.2.2.2.1 162) w) &&& (th0 ^^^ (-1 : Int64))) := ⟨_, rfl⟩
        rw [← ham0]
        have haq : am0 = rka U ga gi op w := by rw [ham0, htq, lsf162 hka hga (hvb w (Nat.le_refl _))]; unfold rka; rw [if_neg (by omega)]
        refine mw_go mu_g322 (k := 1) (f1 := (68, [(6, .inr (.inl th0)), (5, .inl (nI w)), (0, .inr (.inr (some 147))), (1, .inl (nI op)), (2, .inr (.inr (some 162))), (3, .inr (.inr (some gq))), (4, .inr (.inr (some gq)))], [], (mu_sl Hsa 153 (nI w).toNatClampNeg am0))) (C := [mu_is Hsa (some 153) 102, vp_in (nI w) (mu_n Hsa 153)]) rfl (show (mu_is Hsa (some 153) 102) ∧ (vp_in (nI w) (mu_n Hsa 153)) from ⟨((ua.1.1.a (p := 153) (x := (102, 256)) rfl).1), (by rw [show mu_n Hsa 153 = 256 from (ua.1.1.a (p := 153) (x := (102, 256)) rfl).2]; exact vp_in_nI (n := w) (by omega) (by decide))⟩) ?_
        rw [(show (nI w).toNatClampNeg = w from nI_clamp (by omega))]
        obtain ⟨u12, r12, d12⟩ : um m (mu_sl Hsa 153 w am0) ∧ ur m C Hsa (mu_sl Hsa 153 w am0) ∧ ud m (mu_sl Hsa 153 w am0) = (upL Va 153 w am0) := ua.sL (C := C) da rfl
        generalize (mu_sl Hsa 153 w am0) = Q12 at u12 r12 d12 ⊢
        have qf12 : uq F322 U (upL Va 153 w am0) := qfa.L rfl
        have ht12 : ur m C H Q12 := hta.trans r12
        refine mw_go mu_g322 (k := 3) (f1 := (74, [(6, .inr (.inl th0)), (5, .inl (nI w)), (0, .inr (.inr (some 147))), (1, .inl (nI op)), (2, .inr (.inr (some 162))), (3, .inr (.inr (some gq))), (4, .inr (.inr (some gq)))], [.inr (.inl th0), .inl (nI w), .inr (.inr (some gq))], Q12)) (C := []) rfl trivial ?_
        obtain ⟨kb13, kc13, -⟩ := LSN.read u12 d12 (hga.keep (fun b c hb => by rcases hb with rfl | rfl <;> rfl) rfl)
        refine mw_go mu_g322 (k := 1) (f1 := (75, [(6, .inr (.inl th0)), (5, .inl (nI w)), (0, .inr (.inr (some 147))), (1, .inl (nI op)), (2, .inr (.inr (some 162))), (3, .inr (.inr (some gq))), (4, .inr (.inr (some gq)))], [], (mu_sl Q12 gq (nI w).toNatClampNeg th0))) (C := [mu_is Q12 (some gq) 102, vp_in (nI w) (mu_n Q12 gq)]) rfl (show (mu_is Q12 (some gq) 102) ∧ (vp_in (nI w) (mu_n Q12 gq)) from ⟨kb13, (by rw [kc13]; exact vp_in_nI (n := w) (by omega) (by decide))⟩) ?_
        rw [(show (nI w).toNatClampNeg = w from nI_clamp (by omega))]
        obtain ⟨u13, r13, z13, gk13, gl13, gf13⟩ := LSN.write (C := C) (k := w) (v := th0) u12 d12 (hga.keep (fun b c hb => by rcases hb with rfl | rfl <;> rfl) rfl)
        generalize (mu_sl Q12 gq w th0) = Q13 at u13 r13 z13 gk13 gl13 gf13 ⊢
        obtain ⟨V13, d13⟩ : ∃ V, ud m Q13 = V := ⟨_, rfl⟩
        rw [d13] at z13 gk13 gl13 gf13
        have ht13 : ur m C H Q13 := ht12.trans r13
        have qf13 : uq F322 U V13 := qf12.tr z13 rfl
        refine mw_go mu_g322 (k := 1) (f1 := (78, [(5, .inl ((nI w) + 1)), (6, .inr (.inl th0)), (0, .inr (.inr (some 147))), (1, .inl (nI op)), (2, .inr (.inr (some 162))), (3, .inr (.inr (some gq))), (4, .inr (.inr (some gq)))], [], Q13)) (C := []) rfl trivial ?_
        rw [(show ((nI w) + 1) = (nI (w + 1)) from (nI_add w 1))]
        refine mw_go mu_g322 (k := 1) (f1 := (3, [(5, .inl (nI (w + 1))), (6, .inr (.inl th0)), (0, .inr (.inr (some 147))), (1, .inl (nI op)), (2, .inr (.inr (some 162))), (3, .inr (.inr (some gq))), (4, .inr (.inr (some gq)))], [], Q13)) (C := []) rfl trivial ?_
        exact mw_sub (by simp) (iha (w + 1, Q13) ⟨u13, ht13, (show uq F322a U (ud m Q13) from by rw [d13]; exact ((zza.L rfl).tr z13 rfl)), (show (w + 1) ≤ wn from (by omega)), (show LSN (ud m Q13) ga gi gq 256 from by rw [d13]; exact gl13), (show GKP ga gi U (ud m Q13) from by rw [d13]; exact (hka.trans ((GKP.of_eq (fun p hp => upL_ne (by omega)) rfl).trans gk13))), (show (ud m Q13).2.2.2.2.1 148 = U.2.2.2.2.1 148 from by rw [d13]; exact (by rw [show V13.2.2.2.2.1 148 = (upL Va 153 w am0).2.2.2.2.1 148 from gk13.1 148 (Or.inl rfl) hg48, upL_ne (by decide)]; exact h48)), (show ∀ i, i < (w + 1) → lgf (ud m Q13) ga gi i = rkt U ga gi op i ∧ (ud m Q13).2.2.2.2.1 153 i = rka U ga gi op i from by rw [d13]; exact (fun i hi => by rw [gf13, (show lgf (upL Va 153 w am0) ga gi = lgf Va ga gi from lsf_of_eq (fun p hp => upL_ne (by omega)) rfl hga), show V13.2.2.2.2.1 153 = (upL Va 153 w am0).2.2.2.2.1 153 from z13.l 153 rfl, upL_at]; by_cases y : i = w; (rw [if_pos y, y]; exact ⟨htq, by show (if w = w then am0 else _) = _; rw [if_pos rfl]; exact haq⟩); (rw [if_neg y]; exact ⟨(hva i (by omega)).1, by show (if i = w then am0 else _) = _; rw [if_neg y]; exact (hva i (by omega)).2⟩))), (show ∀ i, (w + 1) ≤ i → lgf (ud m Q13) ga gi i = lgf U ga gi i from by rw [d13]; exact (fun i hi => by rw [gf13, (show lgf (upL Va 153 w am0) ga gi = lgf Va ga gi from lsf_of_eq (fun p hp => upL_ne (by omega)) rfl hga), if_neg (by omega)]; exact hvb i (by omega)))⟩ (by show wn - (w + 1) < wn - w; omega))
  · -- 81: not (nI w) < (nI wn)
    have nh1 : ¬ w < wn := fun z => h1 (show nI w < nI wn from (nI_ltI (by omega) (by omega)).mpr z)
    refine mw_go mu_g322 (k := 2) (f1 := (84, [(5, .inl (nI w)), (0, .inr (.inr (some 147))), (1, .inl (nI op)), (2, .inr (.inr (some 162))), (3, .inr (.inr (some gq))), (4, .inr (.inr (some gq)))], [.inr (.inr (some gq)), .inr (.inr (some 147))], Hsa)) (C := []) rfl trivial ?_
    refine mw_go mu_g322 (k := 1) (f1 := (87, [(5, .inl (nI w)), (0, .inr (.inr (some 147))), (1, .inl (nI op)), (2, .inr (.inr (some 162))), (3, .inr (.inr (some gq))), (4, .inr (.inr (some gq)))], [], (mu_sr Hsa 147 8 (some gq)))) (C := [mu_is Hsa (some 147) 2]) rfl (show mu_is Hsa (some 147) 2 from (ua.1.1.is rfl)) ?_
    obtain ⟨u14, r14, d14⟩ : um m (mu_sr Hsa 147 8 (some gq)) ∧ ur m C Hsa (mu_sr Hsa 147 8 (some gq)) ∧ ud m (mu_sr Hsa 147 8 (some gq)) = (upR Va 147 8 (some gq)) := (by have z := ua.putR (C := C) (P := 147) (k := 8) (v := (some gq)) rfl rfl rfl (by decide) (fun q hq => by cases hq; exact LSN.cd da hga); rw [da] at z; exact z)
    generalize (mu_sr Hsa 147 8 (some gq)) = Q14 at u14 r14 d14 ⊢
    have qf14 : uq F322 U (upR Va 147 8 (some gq)) := qfa.R rfl
    have ht14 : ur m C H Q14 := hta.trans r14
    refine mw_go mu_g322 (k := 2) (f1 := (90, [(5, .inl (nI w)), (0, .inr (.inr (some 147))), (1, .inl (nI op)), (2, .inr (.inr (some 162))), (3, .inr (.inr (some gq))), (4, .inr (.inr (some gq)))], [.inl (10 : Int32), .inl (nI op)], Q14)) (C := []) rfl trivial ?_
    refine mw_if (P := (nI op) = (10 : Int32)) (a := 93) (b := 106) (fun _ => rfl) trivial (fun h15 => ?_) (fun h15 => ?_)
    · -- 93: (nI op) = (10 : Int32)
      have nh15 : op = 10 := (nI_eq (by omega) (by omega)).mp (show nI op = nI 10 from h15)
      refine mw_go mu_g322 (k := 3) (f1 := (98, [(5, .inl (nI w)), (0, .inr (.inr (some 147))), (1, .inl (nI op)), (2, .inr (.inr (some 162))), (3, .inr (.inr (some gq))), (4, .inr (.inr (some gq)))], [], (mu_si Q14 147 14 (1 : Int32)))) (C := [mu_is Q14 (some 147) 2]) rfl (show mu_is Q14 (some 147) 2 from (u14.1.1.is rfl)) ?_
      obtain ⟨u16, r16, d16⟩ : um m (mu_si Q14 147 14 (1 : Int32)) ∧ ur m C Q14 (mu_si Q14 147 14 (1 : Int32)) ∧ ud m (mu_si Q14 147 14 (1 : Int32)) = (upI (upR Va 147 8 (some gq)) 147 14 (1 : Int32)) := u14.sI (C := C) d14 rfl
      generalize (mu_si Q14 147 14 (1 : Int32)) = Q16 at u16 r16 d16 ⊢
      have qf16 : uq F322 U (upI (upR Va 147 8 (some gq)) 147 14 (1 : Int32)) := qf14.I rfl
      have ht16 : ur m C H Q16 := ht14.trans r16
      refine mw_go mu_g322 (k := 3) (f1 := (103, [(5, .inl (nI w)), (0, .inr (.inr (some 147))), (1, .inl (nI op)), (2, .inr (.inr (some 162))), (3, .inr (.inr (some gq))), (4, .inr (.inr (some gq)))], [], (mu_si Q16 147 15 (0 : Int32)))) (C := [mu_is Q16 (some 147) 2]) rfl (show mu_is Q16 (some 147) 2 from (u16.1.1.is rfl)) ?_
      obtain ⟨u17, r17, d17⟩ : um m (mu_si Q16 147 15 (0 : Int32)) ∧ ur m C Q16 (mu_si Q16 147 15 (0 : Int32)) ∧ ud m (mu_si Q16 147 15 (0 : Int32)) = (upI (upI (upR Va 147 8 (some gq)) 147 14 (1 : Int32)) 147 15 (0 : Int32)) := u16.sI (C := C) d16 rfl
      generalize (mu_si Q16 147 15 (0 : Int32)) = Q17 at u17 r17 d17 ⊢
      have qf17 : uq F322 U (upI (upI (upR Va 147 8 (some gq)) 147 14 (1 : Int32)) 147 15 (0 : Int32)) := qf16.I rfl
      have ht17 : ur m C H Q17 := ht16.trans r17
      refine mw_go mu_g322 (k := 1) (f1 := (121, [(5, .inl (nI w)), (0, .inr (.inr (some 147))), (1, .inl (nI op)), (2, .inr (.inr (some 162))), (3, .inr (.inr (some gq))), (4, .inr (.inr (some gq)))], [], Q17)) (C := []) rfl trivial ?_
      have hwe : w = wn := by omega
      rw [hwe] at hva
      have hqv : uq F322 U (upI (upI (upR Va 147 8 (some gq)) 147 14 (1 : Int32)) 147 15 (0 : Int32)) := (show uq F322 U (upI (upI (upR Va 147 8 (some gq)) 147 14 (1 : Int32)) 147 15 (0 : Int32)) from (((((uq.refl F322 U).tr zza rfl).R rfl).I rfl).I rfl))
      refine mw_of (fun _ => mu_ret rfl trivial ⟨Q17, rfl, u17, ht17, (by rw [d17]; exact hqv), (by rw [d17]; exact hka.trans (GKP.of_eq (fun p hp => rfl) rfl)), Or.inl ⟨by omega, ?_⟩⟩)
      rw [d17]
      exact ⟨rfl, rfl, rfl, hga.keep (fun b c hb => by rcases hb with rfl | rfl <;> rfl) rfl, fun i hi => (hva i hi).2⟩
    · -- 106: not (nI op) = (10 : Int32)
      have nh15 : ¬ op = 10 := fun z => h15 (show nI op = nI 10 from (nI_eq (by omega) (by omega)).mpr z)
      refine mw_go mu_g322 (k := 3) (f1 := (110, [(5, .inl (nI w)), (0, .inr (.inr (some 147))), (1, .inl (nI op)), (2, .inr (.inr (some 162))), (3, .inr (.inr (some gq))), (4, .inr (.inr (some gq)))], [.inl (12 : Int32), .inl (nI op), .inr (.inr (some 147))], Q14)) (C := []) rfl trivial ?_
      refine mw_if (P := (nI op) = (12 : Int32)) (a := 113) (b := 117) (fun _ => rfl) trivial (fun h18 => ?_) (fun h18 => ?_)
      · -- 113: (nI op) = (12 : Int32)
        have nh18 : op = 12 := (nI_eq (by omega) (by omega)).mp (show nI op = nI 12 from h18)
        refine mw_go mu_g322 (k := 2) (f1 := (118, [(5, .inl (nI w)), (0, .inr (.inr (some 147))), (1, .inl (nI op)), (2, .inr (.inr (some 162))), (3, .inr (.inr (some gq))), (4, .inr (.inr (some gq)))], [.inl (1 : Int32), .inr (.inr (some 147))], Q14)) (C := []) rfl trivial ?_
        have hwe : w = wn := by omega
        rw [hwe] at hva
        have hqv : uq F322 U (upR Va 147 8 (some gq)) := (show uq F322 U (upR Va 147 8 (some gq)) from (((uq.refl F322 U).tr zza rfl).R rfl))
        have hgv : LSN (upR Va 147 8 (some gq)) ga gi gq 256 := hga.keep (fun b c hb => by rcases hb with rfl | rfl <;> rfl) rfl
        refine mw_cV (fun _ => rfl) (show mu_is Q14 (some 147) 2 from (u14.1.1.is rfl)) (gr_sweep (d := d) (C := C) (T := T) (R := R) (wn := wn) (rx := rx) (mb := mb) (me := me) (ga := ga) (gi := gi) (gq := gq) (RB := RB) (ev := 1) (nf := nf) (FS := FS) u14 d14 (hG.keep hqv rfl (NK.of_eq (hqv.a 147 10 rfl))) hgv rfl (hF.g hqv rfl rfl (hka.trans (GKP.of_eq (fun p hp => rfl) rfl)) hg114) (fun s hs y => hAT s hs (by unfold bts at y ⊢; rw [← (hva (s / 64) (by omega)).2]; exact y)) hRB (by omega) (fun y => absurd y hg48)) (fun Q19 q19 => ?_)
        obtain ⟨u19, r19, z19, hJ⟩ := q19
        have ht19 : ur m C H Q19 := ht14.trans r19
        have hJ2 : SWJ (ud m Q19) T R wn rx mb me ga gi gq RB (fun t => t < T ∧ bts (rka U ga gi op) t = true) (fun t => t < T ∧ bts (rkt U ga gi op) t = true) 1 nf FS (8 * R) := by
          have e1 : (fun t => t < T ∧ bts ((upR Va 147 8 (some gq)).2.2.2.2.1 153) t = true) = (fun t => t < T ∧ bts (rka U ga gi op) t = true) := funext fun t => propext (and_congr_right (fun ht => by unfold bts; rw [show (upR Va 147 8 (some gq)).2.2.2.2.1 153 (t / 64) = rka U ga gi op (t / 64) from (hva (t / 64) (by omega)).2]))
          have e2 : (fun t => t < T ∧ bts (lgf (upR Va 147 8 (some gq)) ga gi) t = true) = (fun t => t < T ∧ bts (rkt U ga gi op) t = true) := funext fun t => propext (and_congr_right (fun ht => by unfold bts; rw [show lgf (upR Va 147 8 (some gq)) ga gi (t / 64) = rkt U ga gi op (t / 64) from (hva (t / 64) (by omega)).1]))
          rw [e1, e2] at hJ
          exact hJ
        exact mw_of (fun _ => mu_ret rfl trivial ⟨Q19, rfl, u19, ht19, hqv.tr z19 rfl, (hka.trans ((show GKP ga gi Va (upR Va 147 8 (some gq)) from GKP.of_eq (fun p hp => rfl) rfl).trans (gkp_q (F := F320) z19 rfl rfl rfl))), Or.inr ⟨by omega, 1, (if_pos (show op = 12 by omega)).symm, hJ2⟩⟩)
      · -- 117: not (nI op) = (12 : Int32)
        have nh18 : ¬ op = 12 := fun z => h18 (show nI op = nI 12 from (nI_eq (by omega) (by omega)).mpr z)
        refine mw_go mu_g322 (k := 1) (f1 := (118, [(5, .inl (nI w)), (0, .inr (.inr (some 147))), (1, .inl (nI op)), (2, .inr (.inr (some 162))), (3, .inr (.inr (some gq))), (4, .inr (.inr (some gq)))], [.inl (0 : Int32), .inr (.inr (some 147))], Q14)) (C := []) rfl trivial ?_
        have hwe : w = wn := by omega
        rw [hwe] at hva
        have hqv : uq F322 U (upR Va 147 8 (some gq)) := (show uq F322 U (upR Va 147 8 (some gq)) from (((uq.refl F322 U).tr zza rfl).R rfl))
        have hgv : LSN (upR Va 147 8 (some gq)) ga gi gq 256 := hga.keep (fun b c hb => by rcases hb with rfl | rfl <;> rfl) rfl
        refine mw_cV (fun _ => rfl) (show mu_is Q14 (some 147) 2 from (u14.1.1.is rfl)) (gr_sweep (d := d) (C := C) (T := T) (R := R) (wn := wn) (rx := rx) (mb := mb) (me := me) (ga := ga) (gi := gi) (gq := gq) (RB := RB) (ev := 0) (nf := nf) (FS := FS) u14 d14 (hG.keep hqv rfl (NK.of_eq (hqv.a 147 10 rfl))) hgv rfl (hF.g hqv rfl rfl (hka.trans (GKP.of_eq (fun p hp => rfl) rfl)) hg114) (fun s hs y => hAT s hs (by unfold bts at y ⊢; rw [← (hva (s / 64) (by omega)).2]; exact y)) hRB (by omega) (fun y => absurd y hg48)) (fun Q20 q20 => ?_)
        obtain ⟨u20, r20, z20, hJ⟩ := q20
        have ht20 : ur m C H Q20 := ht14.trans r20
        have hJ2 : SWJ (ud m Q20) T R wn rx mb me ga gi gq RB (fun t => t < T ∧ bts (rka U ga gi op) t = true) (fun t => t < T ∧ bts (rkt U ga gi op) t = true) 0 nf FS (8 * R) := by
          have e1 : (fun t => t < T ∧ bts ((upR Va 147 8 (some gq)).2.2.2.2.1 153) t = true) = (fun t => t < T ∧ bts (rka U ga gi op) t = true) := funext fun t => propext (and_congr_right (fun ht => by unfold bts; rw [show (upR Va 147 8 (some gq)).2.2.2.2.1 153 (t / 64) = rka U ga gi op (t / 64) from (hva (t / 64) (by omega)).2]))
          have e2 : (fun t => t < T ∧ bts (lgf (upR Va 147 8 (some gq)) ga gi) t = true) = (fun t => t < T ∧ bts (rkt U ga gi op) t = true) := funext fun t => propext (and_congr_right (fun ht => by unfold bts; rw [show lgf (upR Va 147 8 (some gq)) ga gi (t / 64) = rkt U ga gi op (t / 64) from (hva (t / 64) (by omega)).1]))
          rw [e1, e2] at hJ
          exact hJ
        exact mw_of (fun _ => mu_ret rfl trivial ⟨Q20, rfl, u20, ht20, hqv.tr z20 rfl, (hka.trans ((show GKP ga gi Va (upR Va 147 8 (some gq)) from GKP.of_eq (fun p hp => rfl) rfl).trans (gkp_q (F := F320) z20 rfl rfl rfl))), Or.inr ⟨by omega, 0, (if_neg (show ¬ op = 12 by omega)).symm, hJ2⟩⟩)
end Near
