/-! THE MACHINE runs several E -/
section RunLoaded2
variable {H : mu_H} {m d P a0 N0 i0 S0 K cp dp W l : Nat} {C : Nat → Nat} {U V : Ud} {Y : Ts} {od rk : Nat → Nat} {mk al : Int32} {NX : Prop} {M : Nat → Prop} {es rs : Nat → Int32} {vn vx : Nat → Nat → Int32} {kd : Bool}
variable {Lk : List Bool}
theorem lfy_of2 {a i : Nat} {lv fv : Nat → Nat → Int32} {rdy : Nat → Prop} {q : Nat} (hW : JW Y) (hi : i < (Y 11).1) (hr : rgs Y (im Y i) Lk a (a + N0)) (hq : q < N0) (ho : oc Y (a + q) ≤ 3) (hP : P ≤ 14) (hlf : lfm (U.1 15) mk M Y P a N0 i) (hT : TOP Y (U.1 14) od) (h3 : (Y 13).1 ≤ (U.2.2.1 100 3).1)
    (hsl : SL (U.1 22) S0 mk) (hS0 : S0 ≤ S0 + K) (hsv : SV U Y W l P mk vn vx) (hside : ∀ k, k < 28 → ¬ mb mk k = 0 → rdy (bcn mk k)) (hfs : ∀ s j, s < S0 → fv s j = cvl U W s j) (hen : ∀ k, k < (Y 13).1 → M (od k) → nmd Y i (a + q) = nI (od k) → (U.2.2.1 100 3).2 (od k) = nI (S0 + rk k) ∧ rk k < K ∧ rdy (S0 + rk k) ∧ ∀ j, j < l → fv (S0 + rk k) j = evz Y od (vn j) (od k))
    (hlv : ∀ j, j < l → lv j (a + q) = lvl Y (vn j) (vx j) (evz Y od (vn j)) i (a + q)) : lfy U Y (S0 + K) l i (a + q) lv fv rdy := by
  have b := hW.2.2.2.2.2.2
  have b13 := b 13 (by decide)
  have b15 := b 15 (by decide)
  by_cases h2 : oc Y (a + q) < 2
  · refine Or.inl ⟨h2, fun j hj => ?_⟩
    rw [hlv j hj]
    unfold lvl
    rw [if_pos h2]
  · have h23 : oc Y (a + q) = 2 ∨ oc Y (a + q) = 3 := by omega
    obtain ⟨r, er, hr1, hr2⟩ := rgs_ref hr hW hq h23
    obtain ⟨-, -, -, hkM, b1⟩ := hW.inst hi
    obtain ⟨lr1, lr2, lr3⟩ := hW.le hkM (c := 6) (j := 9) (by decide) (by decide) rfl
    have eoa : oa Y (a + q) = r := by unfold oa; rw [er]; exact nI_clamp (by omega)
    have hoc := oc_w hW (q := a + q) (by have := hr.2.1; omega)
    obtain ⟨l1, l2⟩ := hlf q hq h23
    rw [eoa] at l1 l2
    have hl : ∀ j, j < l → lv j (a + q) = (if (Y 9).2 r 2 = 5 then rch Y r i else if (Y 9).2 r 2 = 3 then (if oc Y (a + q) = 3 then vx j (rch Y r i).toNatClampNeg else vn j (rch Y r i).toNatClampNeg) else evz Y od (vn j) (rch Y r i).toNatClampNeg) := fun j hj => by
      rw [hlv j hj]
      unfold lvl
      rw [if_neg h2, eoa]
    refine Or.inr ⟨by omega, r, er, ⟨hr1, hr2⟩, ?_⟩
    rcases rch_ok hW hi hr1 hr2 with z | ⟨z, w, v, hw, ew, ev, hv⟩ | ⟨z, e2, he2, ee⟩
    · exact Or.inl ⟨z, fun j hj => by rw [hl j hj, if_pos z]⟩
    · have n5 : ¬ (Y 9).2 r 2 = 5 := by rw [z]; decide
      have hl2 : ∀ j, j < l → lv j (a + q) = if oc Y (a + q) = 3 then vx j w else vn j w := fun j hj => by
        rw [hl j hj, if_neg n5, if_pos z, ew, nI_clamp (by omega)]
      rcases l1 z w hw ew with y | ⟨pl, y1, y2, y3⟩
      · refine Or.inr (Or.inl ⟨z, w, ew, by omega, y, fun j hj => ?_⟩)
        obtain ⟨q1, q2⟩ := (hsv w hw j hj).1 y
        rw [hl2 j hj]
        split
        · exact q2
        · exact q1
      · refine Or.inr (Or.inr (Or.inl ⟨z, w, pl, bcn mk (if oc Y (a + q) = 3 then pl + 14 else pl), ew, by omega, y2, by omega, ?_, ?_, fun j hj => ?_⟩))
        · exact (hsl _ (by split <;> omega) y3).1
        · have := (hsl _ (by split <;> omega) y3).2
          exact ⟨by omega, hside _ (by split <;> omega) y3⟩
        · have hb := (hsl _ (by split <;> omega) y3).2
          rw [hl2 j hj, hfs _ j hb]
          obtain ⟨q1, q2⟩ := (hsv w hw j hj).2 pl y1 y2
          by_cases h3 : oc Y (a + q) = 3
          · rw [if_pos h3] at y3 ⊢
            rw [if_pos h3]
            exact (q2 y3).symm
          · rw [if_neg h3] at y3 ⊢
            rw [if_neg h3]
            exact (q1 y3).symm
    · have n5 : ¬ (Y 9).2 r 2 = 5 := by rcases z with z | z <;> (rw [z]; decide)
      have n3 : ¬ (Y 9).2 r 2 = 3 := by rcases z with z | z <;> (rw [z]; decide)
      obtain ⟨k, hk, ek⟩ := hT.1.2.2.2 e2 he2
      have hnm : nmd Y i (a + q) = nI (od k) := by
        unfold nmd
        rw [if_pos ⟨by rw [hoc]; rcases h23 with y | y <;> rw [y]; exact Or.inl rfl; exact Or.inr rfl, by rw [eoa]; exact z⟩, eoa, ee, ek]
      obtain ⟨s1, s2, s3, s4⟩ := hen k hk (by rw [ek]; exact l2 z e2 he2 ee) hnm
      refine Or.inr (Or.inr (Or.inr ⟨⟨n3, n5⟩, e2, S0 + rk k, ee, by omega, by rw [← ek]; exact s1, ⟨by omega, s3⟩, fun j hj => ?_⟩))
      rw [hl j hj, if_neg n5, if_neg n3, ee, nI_clamp (by omega), s4 j hj, ek]
theorem run_pack2 {O A : Nat} (hO : O = S0 + K + cp) (hA : A = S0 + K + cp + dp) (hW : JW Y) (hT : TOP Y (U.1 14) od) (hY : TYP Y es) (hN : NUM Y) (hLR : LR U Y a0 N0 i0 od S0 K M rk) (hLZ : LZx U S0 K cp dp W mk) (hLC : LC (U.1 15) Y P NX a0 N0 i0 cp dp mk M) (hP : P ≤ 14) (hi0 : i0 < (Y 11).1) (hr0 : rgs Y (im Y i0) Lk a0 (a0 + N0)) (hLk : 1 ≤ Lk.length) (hs0 : SRT Y es i0 al a0 rs N0) (hal : ¬ al = 2) (hvn : ∀ j, j < l → VLS Y (vn j)) (hvx : ∀ j, j < l → VLS Y (vx j)) (hsl : SL (U.1 22) S0 mk) (hsv : SV U Y W l P mk vn vx) :
    ∃ (pa pN pi : Nat → Nat) (fv : Nat → Nat → Int32) (lv : Nat → Nat → Nat → Int32), (pa K = a0 ∧ pN K = N0 ∧ pi K = i0 ∧ ∀ j, lv K j = lvl Y (vn j) (vx j) (evz Y od (vn j)) i0) ∧
      (∀ y, y < K + 1 → (U.1 21).2 y 0 = nI (pa y) ∧ (U.1 21).2 y 1 = nI (pa y + pN y) ∧ (U.1 21).2 y 2 = nI (pi y)) ∧ (∀ y, y + 1 < K + 1 → (U.1 21).2 y 3 = nI (S0 + y) ∧ S0 + y < O - cp) ∧ (∀ y, y + 1 = K + 1 → (U.1 21).2 y 3 = -1) ∧
      (∀ y, y < K + 1 → pgz U Y O cp A l (pa y) (pN y) (pi y) (lv y) fv (fun s => s < S0 ∨ ∃ yq, yq < y ∧ s = S0 + yq)) ∧ (∀ y, y + 1 < K + 1 → ∀ j, j < l → fv (S0 + y) j = svz Y (lv y j) (pa y) (pN y) 0) ∧ (∀ s j, s < S0 → fv s j = cvl U W s j) ∧ ∀ q, q < (Y 13).1 → M (od q) → ∀ j, fv (S0 + rk q) j = evz Y od (vn j) (od q) := by
  obtain ⟨⟨n3, n3b⟩, ⟨r21, rK0, rK1, rK2, rK3⟩, rows, mono, onto⟩ := hLR
  obtain ⟨⟨z5, z7, z17, z4⟩, ⟨w1, w2⟩, ⟨z8, zcl⟩, z12, z13, z15, zall, zdp, zS0⟩ := hLZ
  obtain ⟨⟨c1, c2, c3⟩, c4, c5⟩ := hLC
  have b0 := hW.2.2.2.2.2.2 0 (by decide)
  obtain ⟨qy, hqy⟩ := pick_nat onto
  have rinj : ∀ q q', M (od q) → M (od q') → rk q = rk q' → q = q' := fun q q' m1 m2 e => by
    by_cases h1 : q < q'
    · have := mono q q' h1 m1; omega
    · by_cases h2 : q' < q
      · have := mono q' q h2 m2; omega
      · omega
  have hab := hr0.2.1
  refine ⟨fun y => if y < K then enx Y (od (qy y)) 0 else a0, fun y => if y < K then elx Y (od (qy y)) else N0, fun y => if y < K then enx Y (od (qy y)) 2 else i0, fun s j => if s < S0 then cvl U W s j else evz Y od (vn j) (od (qy (s - S0))), fun y j q => lvl Y (vn j) (vx j) (evz Y od (vn j)) (if y < K then enx Y (od (qy y)) 2 else i0) q, ?_, ?_, ?_, ?_, ?_, ?_, ?_, ?_⟩
  · refine ⟨if_neg (Nat.lt_irrefl _), if_neg (Nat.lt_irrefl _), if_neg (Nat.lt_irrefl _), fun j => ?_⟩
    funext q
    show lvl Y (vn j) (vx j) (evz Y od (vn j)) (if K < K then enx Y (od (qy K)) 2 else i0) q = _
    rw [if_neg (Nat.lt_irrefl _)]
  · intro y hy
    show (U.1 21).2 y 0 = nI (if y < K then enx Y (od (qy y)) 0 else a0) ∧ (U.1 21).2 y 1 = nI ((if y < K then enx Y (od (qy y)) 0 else a0) + (if y < K then elx Y (od (qy y)) else N0)) ∧ (U.1 21).2 y 2 = nI (if y < K then enx Y (od (qy y)) 2 else i0)
    by_cases h : y < K
    · rw [if_pos h, if_pos h, if_pos h]
      obtain ⟨q1, q2, q3⟩ := hqy y h
      obtain ⟨t1, t2, t3, t4⟩ := rows (qy y) q1 q2
      obtain ⟨e0, e1, e2, -, -⟩ := en_ok hW (hT.1.2.1 _ q1).2
      rw [q3] at t3
      exact ⟨(t3 0 (by decide)).trans e0, (t3 1 (by decide)).trans e1, (t3 2 (by decide)).trans e2⟩
    · rw [if_neg h, if_neg h, if_neg h, show y = K by omega]
      exact ⟨rK0, rK1, rK2⟩
  · intro y hy
    obtain ⟨q1, q2, q3⟩ := hqy y (by omega)
    obtain ⟨t1, t2, t3, t4⟩ := rows (qy y) q1 q2
    rw [q3] at t4
    exact ⟨t4, by omega⟩
  · intro y hy
    rw [show y = K by omega]
    exact rK3
  · intro y hy
    have key : ∀ (a N i : Nat) (Lk : List Bool) (al : Int32) (rs : Nat → Int32), i < (Y 11).1 → 1 ≤ Lk.length → rgs Y (im Y i) Lk a (a + N) → SRT Y es i al a rs N → ¬ al = 2 → lfm (U.1 15) mk M Y P a N i → (∀ x, x ≤ N → tpz Y a x ≤ dp) → sfz Y a N ≤ cp → (∀ q k, q < N → k < (Y 13).1 → M (od k) → nmd Y i (a + q) = nI (od k) → rk k < y) → pgz U Y O cp A l a N i (fun j q => lvl Y (vn j) (vx j) (evz Y od (vn j)) i q) (fun s j => if s < S0 then cvl U W s j else evz Y od (vn j) (od (qy (s - S0)))) (fun s => s < S0 ∨ ∃ yq, yq < y ∧ s = S0 + yq) := by
      intro a N i Lk al rs hi hLk hr hs hal hlf hdp hsf hrk
      have h1p := rgs_1 hr
      rw [Nat.add_sub_cancel_left] at h1p
      have hb := hr.2.1
      have hsn := snz_sf (Y := Y) (a := a) (n := N) (fun x hx ho => plen_1 (by omega) (fun z => ((okc_n hW.2.2.2.2.2.1.2 (show a + x < (Y 0).1 by omega)).2.2 z).2.1))
      refine ⟨fun x hx => by have := hdp x hx; omega, hsf, by omega, hi, by omega, by omega, okz_of2 hW.2.2.2.2.2.1.2 hr hs hal (fun j hj n hn ho => ?_), fun n hn ho => ?_⟩
      · exact lvl_cfm hW hN (by omega) ((hs n hn).2.1 (plen_0 ho)) (hvn j hj) (hvx j hj) (fun e2 he2 _ => evz_all hW hT hY hN (hvn j hj) he2)
      · rw [show O - cp = S0 + K by omega]
        refine lfy_of2 (W := W) (vn := vn) (vx := vx) (rk := rk) (od := od) (mk := mk) (M := M) (P := P) hW hi hr hn ho hP hlf hT n3 hsl (by omega) hsv (fun k hk hb => Or.inl (hsl k hk hb).2) (fun s j hs => if_pos hs) (fun k hk hm hnm => ?_) (fun j hj => rfl)
        obtain ⟨t1, t2, t3, t4⟩ := rows k hk hm
        refine ⟨t2, t1, Or.inr ⟨rk k, hrk n k hn hk hm hnm, rfl⟩, fun j hj => ?_⟩
        show (if S0 + rk k < S0 then _ else evz Y od (vn j) (od (qy (S0 + rk k - S0)))) = _
        obtain ⟨q1, q2, q3⟩ := hqy (rk k) t1
        rw [if_neg (by omega), Nat.add_sub_cancel_left, rinj _ _ q2 hm q3]
    show pgz U Y O cp A l (if y < K then enx Y (od (qy y)) 0 else a0) (if y < K then elx Y (od (qy y)) else N0) (if y < K then enx Y (od (qy y)) 2 else i0) (fun j q => lvl Y (vn j) (vx j) (evz Y od (vn j)) (if y < K then enx Y (od (qy y)) 2 else i0) q) _ _
    by_cases h : y < K
    · rw [if_pos h, if_pos h, if_pos h]
      obtain ⟨q1, q2, q3⟩ := hqy y h
      have he := (hT.1.2.1 _ q1).2
      obtain ⟨-, -, -, hi, hr⟩ := en_ok hW he
      obtain ⟨rs1, e1, e2, e3⟩ := hY.1 _ he
      obtain ⟨d1, d2⟩ := c4 _ he q2
      refine key _ _ _ [false] 0 rs1 hi (Nat.le_refl _) (rgs_of hr) e1 (by decide) d1 d2 (by rw [sfz_0 (fun x hx => (rg_n hr (by omega)).2 rfl)]; omega) (fun q k hq hk hm hnm => ?_)
      obtain ⟨k', k1, k2⟩ := hT.2 (qy y) q1 _ (od k) ⟨Nat.le_add_right _ _, by unfold elx at hq; omega, (hT.1.2.1 k hk).2, hnm⟩
      have : k' = k := by
        by_cases h1 : k' < k
        · exact absurd k2 (hT.1.2.2.1 k' k h1 hk)
        · by_cases h2 : k < k'
          · exact absurd k2.symm (hT.1.2.2.1 k k' h2 (by omega))
          · omega
      rw [this] at k1
      have := mono k (qy y) k1 hm
      omega
    · rw [if_neg h, if_neg h, if_neg h]
      refine key _ _ _ Lk al rs hi0 hLk hr0 hs0 hal c1 c2 (by omega) (fun q k hq hk hm hnm => ?_)
      have := (rows k hk hm).1
      omega
  · intro y hy j hj
    show (if S0 + y < S0 then _ else evz Y od (vn j) (od (qy (S0 + y - S0)))) = svz Y (fun q => lvl Y (vn j) (vx j) (evz Y od (vn j)) (if y < K then enx Y (od (qy y)) 2 else i0) q) (if y < K then enx Y (od (qy y)) 0 else a0) (if y < K then elx Y (od (qy y)) else N0) 0
    have h : y < K := by omega
    rw [if_neg (by omega), Nat.add_sub_cancel_left, if_pos h, if_pos h, if_pos h]
    obtain ⟨q1, q2, q3⟩ := hqy y h
    have he := (hT.1.2.1 _ q1).2
    obtain ⟨-, -, -, hi, hr⟩ := en_ok hW he
    obtain ⟨rs1, e1, e2, e3⟩ := hY.1 _ he
    rw [evz_eq hW hT q1]
    refine congrFun (svz_congr (fun x hx ho => ?_)) 0
    unfold lvl
    have h3 : ¬ oc Y (enx Y (od (qy y)) 0 + x) = 3 := fun z => by
      rcases (e1 x hx).2.1 (plen_0 ho) with y | y | ⟨-, y, -⟩
      · omega
      · omega
      · exact absurd (y z).2 (by decide)
    rw [if_neg h3, if_neg h3]
  · intro s j hs
    exact if_pos hs
  · intro q hq hm j
    show (if S0 + rk q < S0 then _ else evz Y od (vn j) (od (qy (S0 + rk q - S0)))) = _
    obtain ⟨t1, t2, t3, t4⟩ := rows q hq hm
    obtain ⟨q1, q2, q3⟩ := hqy (rk q) t1
    rw [if_neg (by omega), Nat.add_sub_cancel_left, rinj _ _ q2 hm q3]
theorem mc_runS2 (h : um m H) (e : ud m H = U) (hsp : U.2.2.2.1 100 0 = some 99) (hmo : U.2.2.2.1 99 0 = some m) (hj : jv Y U.1) (hW : JW Y) (hT : TOP Y (U.1 14) od) (hY : TYP Y es) (hN : NUM Y) (hLR : LR U Y a0 N0 i0 od S0 K M rk) (hLZ : LZx U S0 K cp dp W mk) (hLC : LC (U.1 15) Y P NX a0 N0 i0 cp dp mk M) (hP : P ≤ 14) (hi0 : i0 < (Y 11).1) (hr0 : rgs Y (im Y i0) Lk a0 (a0 + N0)) (hLk : 1 ≤ Lk.length) (hs0 : SRT Y es i0 al a0 rs N0) (hal : ¬ al = 2) (hvn : ∀ j, j < l → VLS Y (vn j)) (hvx : ∀ j, j < l → VLS Y (vx j)) (hsl : SL (U.1 22) S0 mk) (hsv : SV U Y W l P mk vn vx) (hl : U.2.1 100 18 = nI l) (hl1 : 1 ≤ l) (hlW : l ≤ W) (h21 : U.2.1 100 21 = 1) : mu_TV (mu_D (d + 6)) 208 [.inr (.inr (some 100))] H (fun H1 => um m H1 ∧ ur m C H H1 ∧ uq F208 U (ud m H1) ∧ (ud m H1).2.1 100 21 = 0 ∧ (∃ V0 it, ri V0 (ud m H1) Y (S0 + K + cp) cp (S0 + K + cp + dp) W l a0 N0 (fun j => lvl Y (vn j) (vx j) (evz Y od (vn j)) i0) it) ∧ (∀ s j, s < S0 → j < l → cvl (ud m H1) W s j = cvl U W s j) ∧ (∀ q, q < (Y 13).1 → M (od q) → ∀ j, j < l → cvl (ud m H1) W (S0 + rk q) j = evz Y od (vn j) (od q)) ∧ ∀ s k, s < S0 → k < W → ckp (ud m H1) U W s k) := by
  obtain ⟨pa, pN, pi, fv, lv, ⟨k1, k2, k3, k4⟩, k5, k6, k7, k8, k9, k10, k11⟩ := run_pack2 rfl rfl hW hT hY hN hLR hLZ hLC hP hi0 hr0 hLk hs0 hal hvn hvx hsl hsv
  have hlv : lv K = fun j => lvl Y (vn j) (vx j) (evz Y od (vn j)) i0 := funext k4
  obtain ⟨⟨n3, n3b⟩, ⟨r21, -⟩, rows, -, -⟩ := hLR
  obtain ⟨⟨z5, z7, z17, z4⟩, ⟨w1, w2⟩, ⟨z8, zcl⟩, ⟨z12, z12b⟩, ⟨z13, z13b⟩, ⟨z15, z15b⟩, zall, zdp, zS0⟩ := hLZ
  have b13 := hW.2.2.2.2.2.2 13 (by decide)
  have hx : mx U (S0 + K + cp + dp) W l := ⟨z17, hl, hl1, hlW, w2, z8, by unfold clz at zcl; omega, z12, by omega⟩
  have hK : K ≤ 32768 := by omega
  refine (mc_run1 (C := C) (d := d) (T := K + 1) (S0 := S0) (O := S0 + K + cp) (cp := cp) (ps := fun y => S0 + y) (fv := fv) h e hx hsp hmo z7 z5 h21 (by omega) (by omega) (by omega) (by omega) (by omega) (by omega) (by omega) hj hW r21 (by omega) (by omega) k5 k6 k7 (by omega) k8 k9 (fun s hs j hj => by rcases hs with y | ⟨yq, y, -⟩; exact (k10 s j y).symm; omega) (fun y _ => Nat.le_add_right _ _)).imp (fun H1 z => ?_)
  obtain ⟨y1, y2, y3, ⟨y4, V0, it, y5⟩, y6, y7⟩ := z
  rw [Nat.add_sub_cancel] at y5 y6
  rw [k1, k2, hlv] at y5
  refine ⟨y1, y2, y3, y4, ⟨V0, it, y5⟩, fun s j hs hj => ?_, fun q hq hm j hj => ?_, y7⟩
  · rw [y6 s (Or.inl hs) j hj]; exact k10 s j hs
  · rw [y6 _ (Or.inr ⟨rk q, (rows q hq hm).1, rfl⟩) j hj]; exact k11 q hq hm j
theorem mc_runF2 (h : um m H) (e : ud m H = U) (hsp : U.2.2.2.1 100 0 = some 99) (hmo : U.2.2.2.1 99 0 = some m) (hj : jv Y U.1) (hW : JW Y) (hT : TOP Y (U.1 14) od) (hY : TYP Y es) (hN : NUM Y) (hLR : LR U Y a0 N0 i0 od S0 K M rk) (hLZ : LZx U S0 K cp dp W mk) (hLC : LC (U.1 15) Y P NX a0 N0 i0 cp dp mk M) (hP : P ≤ 14) (hi0 : i0 < (Y 11).1) (hr0 : rgs Y (im Y i0) Lk a0 (a0 + N0)) (hLk : 1 ≤ Lk.length) (hs0 : SRT Y es i0 al a0 rs N0) (hal : ¬ al = 2) (hvn : ∀ j, j < l → VLS Y (vn j)) (hvx : ∀ j, j < l → VLS Y (vx j)) (hsl : SL (U.1 22) S0 mk) (hsv : SV U Y W l P mk vn vx) (hl : U.2.1 100 18 = nI l) (hl1 : 1 ≤ l) (hlW : l ≤ W) (h21 : U.2.1 100 21 = 0) (hst : ∀ q, q < (Y 13).1 → M (od q) → ∀ j, j < l → cvl U W (S0 + rk q) j = evz Y od (vn j) (od q)) : mu_TV (mu_D (d + 6)) 208 [.inr (.inr (some 100))] H (fun H1 => um m H1 ∧ ur m C H H1 ∧ uq F208 U (ud m H1) ∧ (ud m H1).2.1 100 21 = 0 ∧ (∃ V0 it, ri V0 (ud m H1) Y (S0 + K + cp) cp (S0 + K + cp + dp) W l a0 N0 (fun j => lvl Y (vn j) (vx j) (evz Y od (vn j)) i0) it) ∧ (∀ s j, s < S0 → j < l → cvl (ud m H1) W s j = cvl U W s j) ∧ (∀ q, q < (Y 13).1 → M (od q) → ∀ j, j < l → cvl (ud m H1) W (S0 + rk q) j = evz Y od (vn j) (od q)) ∧ ∀ s k, s < S0 → k < W → ckp (ud m H1) U W s k) := by
  obtain ⟨pa, pN, pi, fv, lv, ⟨k1, k2, k3, k4⟩, k5, k6, k7, k8, k9, k10, k11⟩ := run_pack2 rfl rfl hW hT hY hN hLR hLZ hLC hP hi0 hr0 hLk hs0 hal hvn hvx hsl hsv
  have hlv : lv K = fun j => lvl Y (vn j) (vx j) (evz Y od (vn j)) i0 := funext k4
  obtain ⟨⟨n3, n3b⟩, ⟨r21, -⟩, rows, -, onto⟩ := hLR
  obtain ⟨⟨z5, z7, z17, z4⟩, ⟨w1, w2⟩, ⟨z8, zcl⟩, ⟨z12, z12b⟩, ⟨z13, z13b⟩, ⟨z15, z15b⟩, zall, zdp, zS0⟩ := hLZ
  have b13 := hW.2.2.2.2.2.2 13 (by decide)
  have hx : mx U (S0 + K + cp + dp) W l := ⟨z17, hl, hl1, hlW, w2, z8, by unfold clz at zcl; omega, z12, by omega⟩
  have hK : K ≤ 32768 := by omega
  refine (mc_run0 (C := C) (d := d) (T := K + 1) (S0 := S0) (O := S0 + K + cp) (cp := cp) (ps := fun y => S0 + y) (fv := fv) h e hx hsp hmo z7 z5 h21 (by omega) (by omega) (by omega) (by omega) (by omega) (by omega) (by omega) hj hW r21 (by omega) (by omega) k5 k6 k7 (by omega) k8 k9 (fun s hs j hj => by rcases hs with y | ⟨yq, y, rfl⟩; exact (k10 s j y).symm; obtain ⟨q, q1, q2, q3⟩ := onto yq (by omega); rw [← q3]; exact (hst q q1 q2 j hj).trans (k11 q q1 q2 j).symm) (fun y _ => Nat.le_add_right _ _)).imp (fun H1 z => ?_)
  obtain ⟨y1, y2, y3, ⟨y4, V0, it, y5⟩, y6, y7⟩ := z
  rw [Nat.add_sub_cancel] at y5 y6
  rw [k1, k2, hlv] at y5
  refine ⟨y1, y2, y3, y4, ⟨V0, it, y5⟩, fun s j hs hj => ?_, fun q hq hm j hj => ?_, y7⟩
  · rw [y6 s (Or.inl hs) j hj]; exact k10 s j hs
  · rw [y6 _ (Or.inr ⟨rk q, (rows q hq hm).1, rfl⟩) j hj]; exact k11 q hq hm j
end RunLoaded2
