/-! SHOW: a ring in the ready state; what is shown is watched -/
/-- a FAIRNESS by its row; without one all STATES serve -/
def FRg (Y : Ts) (KU : Ud) (f : Nat → Nat) (P : Nat) (od : Nat → Nat) (a t : Nat) : Prop := (Y 16).1 = 0 ∨ (t < pd f 0 P ∧ EVR Y KU f P od t ∧ FRv Y KU f P od a t)
/-- what is shown -/
def SHN (V : Ud) (cn : Nat) (sh : Nat → Nat) (lpo : Option Nat) : Prop := V.2.1 158 11 = nI cn ∧ V.2.1 158 12 = sI lpo ∧ ∀ j, j < cn → (V.2.2.1 158 9).2 j = nI (sh j)
def FSHW : Uf := ⟨FDK.t, [(158, 10), (158, 11), (158, 12), (158, 13), (158, 14), (158, 16), (158, 21)] ++ FDK.i, (158, 8) :: (158, 9) :: FDK.a, (147, 8) :: FDK.n, FDK.l, true⟩
def FDSP : Uf := ⟨[], [(158, 11), (158, 12), (158, 14), (158, 16), (147, 14), (147, 15)], [(158, 9)], [], [], false⟩
section ShowRing
variable {H H0 H1 : mu_H} {U V KU Xt : Ud} {m d P fb NN us nf nw nb kN ns sp : Nat} {C : Nat → Nat} {Y : Ts} {f od bs lv lc wa wn wi cl ro z me sa sN si : Nat → Nat} {es nm tm : Nat → Int32} {wk p : Nat → Bool} {S FS : Nat → Nat → Bool} {bo oid : Nat → Nat → Nat} {Gr : Nat → Nat → Prop} {al : Nat → Prop} {L4 L8 : Nat → Int64} {F : Uf}
variable {g0 g1 st lst q1 cn : Nat} {Qg Qw Z pp : Nat → Prop} {sh : Nat → Nat} {lpo : Option Nat} {sv : Int32}
theorem crd_frr (hU : CRI U m Y es P f od KU Xt ns sa sN si fb NN us S z p nf nm tm bs lv lc oid nw wa wn wi wk nb bo cl al ro Gr me kN FS L4 L8) (hY : (Y 16).1 ≤ 4001) : FRR U m (max 1 (Y 16).1) (FRg Y KU f P od) := by
  have e : (U.1 16).1 = (Y 16).1 := (RDX.rsk hU.1.1.1).jv.2.2.2.1.1
  refine ⟨hU.1.1.2.2.2.2.2.2.2, by rw [e]; omega, by rw [e], ?_⟩
  rw [e]
  by_cases c : (Y 16).1 = 0
  · exact Or.inl ⟨c, fun t => Or.inl c⟩
  · refine Or.inr ⟨c, fun a ha => ?_⟩
    obtain ⟨id, i1, i2, i3⟩ := hU.2.2.2.2.1 a (by omega)
    obtain ⟨⟨sx, fc, s1, s2⟩, s3⟩ := hU.1.1.2.2.1.2 id i1
    have hTb := hU.tw.2
    refine ⟨id, sx, fc, FS id, i2, s1, s2, fun x hx => by have := s3 x hx; omega, fun t => ?_⟩
    rw [i3 t]
    exact ⟨fun y => y.elim (fun y => absurd y c) (fun y => y), Or.inr⟩
/-- each FAIRNESS is met again -/
theorem crd_way (hU : CRI U m Y es P f od KU Xt ns sa sN si fb NN us S z p nf nm tm bs lv lc oid nw wa wn wi wk nb bo cl al ro Gr me kN FS L4 L8) (hZ : Z = EGS (GOS Y KU Xt f P od) kN (fun f t => FS f t = true) pp) : ∀ a s, a < (max 1 (Y 16).1) → Z s → ∃ n W, PTH (GOS Y KU Xt f P od) Z (fun t => (FRg Y KU f P od) a t ∧ Z t) s n W := by
  intro a s ha hs
  subst hZ
  by_cases c : (Y 16).1 = 0
  · obtain ⟨n, W, w1, w2, w3, w4, w5⟩ := egs_step hs
    exact ⟨n, W, w1, w2, w3, w4, Or.inl c, w5⟩
  · obtain ⟨id, i1, i2, i3⟩ := hU.2.2.2.2.1 a (by omega)
    obtain ⟨n, W, w1, w2, w3, w4, w5⟩ := egs_way hs i1
    exact ⟨n, W, w1, w2, w3, w4, Or.inr ((i3 _).mp w5.1), w5.2⟩
/-- a ring is set out for -/
theorem crd_ring12 (h : um m H) (hU : CRI (ud m H) m Y es P f od KU Xt ns sa sN si fb NN us S z p nf nm tm bs lv lc oid nw wa wn wi wk nb bo cl al ro Gr me kN FS L4 L8) (hsp : sp < ns) (hns : ns ≤ 2147483648) (h171 : ((ud m H).1 17).2 sp 1 = nI (lst + 1)) (hlb : lst < 2147483646) (hou : ((ud m H).1 0).2 lst 0 = nI 12) (hk7 : ((ud m H).2.2.1 158 7).2 (sp % 64) = nI sp) (hl00 : LSN (ud m H) 161 0 g0 256) (hl10 : LSN (ud m H) 161 1 g1 256) (hgl : ∀ s, s < 64 * ((pd f 0 P + 63) / 64) → (bts (lgf (ud m H) 161 0) s = true ↔ (EVS Y KU f P od) s ∧ Qg s)) (hst : (SHH 12 (EVS Y KU f P od) Qw ((SPD Y (GOS Y KU Xt f P od) (EVS Y KU f P od) (EGS (GOS Y KU Xt f P od) kN (fun f t => FS f t = true) (EVS Y KU f P od)) kN (fun f t => FS f t = true) KU f P od sa sN si) sp)) st) (hY : (Y 16).1 ≤ 4001) : mu_TV (mu_D (d + 21)) 368 [.inr (.inr (some 158)), .inl (nI sp), .inl (nI st)] H (fun H1 => (um m H1 ∧ ur m C H H1) ∧ (uq FRNG (ud m H) (ud m H1) ∧ PKS (ud m H) (ud m H1)) ∧ (RDX (ud m H1) m od Y es P f fb (pd f 0 P) Gr NN us S z p nf nm tm bs lv lc oid nw wa wn wi wk nb bo cl al ro ∧ GRB (ud m H1) (pd f 0 P) (NN - fb) ((pd f 0 P + 63) / 64) ro (fun r => pzz ro r (pd f 0 P)) me) ∧ RGM (ud m H1) (SHH 12 (EVS Y KU f P od) Qw ((SPD Y (GOS Y KU Xt f P od) (EVS Y KU f P od) (EGS (GOS Y KU Xt f P od) kN (fun f t => FS f t = true) (EVS Y KU f P od)) kN (fun f t => FS f t = true) KU f P od sa sN si) sp)) ((pd f 0 P + 63) / 64) g0 g1 ((1, (fun _ => st), 0, 0) : RGT) ∧ FRR (ud m H1) m (max 1 (Y 16).1) (FRg Y KU f P od) ∧ ∃ hh, LPQ (ud m H1) (GOS Y KU Xt f P od) (SHH 12 (EVS Y KU f P od) Qw ((SPD Y (GOS Y KU Xt f P od) (EVS Y KU f P od) (EGS (GOS Y KU Xt f P od) kN (fun f t => FS f t = true) (EVS Y KU f P od)) kN (fun f t => FS f t = true) KU f P od sa sN si) sp)) (RGG (max 1 (Y 16).1) (FRg Y KU f P od) (SHH 12 (EVS Y KU f P od) Qw ((SPD Y (GOS Y KU Xt f P od) (EVS Y KU f P od) (EGS (GOS Y KU Xt f P od) kN (fun f t => FS f t = true) (EVS Y KU f P od)) kN (fun f t => FS f t = true) KU f P od sa sN si) sp)) ((1, (fun _ => st), 0, 0) : RGT)) st ro (fun _ => st) (fun _ => 0) (fun _ => 0) (pd f 0 P) (NN - fb) ((pd f 0 P + 63) / 64) 161 0 g0 1 hh) := by
  have hb := crd_aim (oo := 12) (Qw := Qw) hU hsp hns hk7 hgl (fun y => absurd y (by decide))
  obtain ⟨q, L, hL, hwL, hlk, -⟩ := hU.1.2.2.1.of (i := sp) (by omega) hns hk7
  have hGb := hU.1.1.2.1
  have hnum := RDX.nums hU.1.1.1
  have hTw := hU.tw.1
  have hTb := hU.tw.2
  have hZT : ∀ t, (SHH 12 (EVS Y KU f P od) Qw ((SPD Y (GOS Y KU Xt f P od) (EVS Y KU f P od) (EGS (GOS Y KU Xt f P od) kN (fun f t => FS f t = true) (EVS Y KU f P od)) kN (fun f t => FS f t = true) KU f P od sa sN si) sp)) t → t < pd f 0 P := fun t y => by unfold SHH at y; rw [if_pos rfl] at y; exact y.1.1
  have hI : RGI (GOS Y KU Xt f P od) (SHH 12 (EVS Y KU f P od) Qw ((SPD Y (GOS Y KU Xt f P od) (EVS Y KU f P od) (EGS (GOS Y KU Xt f P od) kN (fun f t => FS f t = true) (EVS Y KU f P od)) kN (fun f t => FS f t = true) KU f P od sa sN si) sp)) (max 1 (Y 16).1) ((1, (fun _ => st), 0, 0) : RGT) := ⟨⟨(show 1 ≤ 1 from Nat.le_refl _), (show 0 < 1 from Nat.zero_lt_one), Nat.zero_le _⟩, fun j _ => hst, fun j hj => absurd (show j + 1 < 1 from hj) (by omega)⟩
  refine (pr_pathG12 (d := d + 16) (C := C) (wn := ((pd f 0 P + 63) / 64)) (PL := fun W H1 => (uq FRNG (ud m H) (ud m H1) ∧ PKS (ud m H) (ud m H1)) ∧ (RDX (ud m H1) m od Y es P f fb (pd f 0 P) Gr NN us S z p nf nm tm bs lv lc oid nw wa wn wi wk nb bo cl al ro ∧ GRB (ud m H1) (pd f 0 P) (NN - fb) ((pd f 0 P + 63) / 64) ro (fun r => pzz ro r (pd f 0 P)) me) ∧ RGM (ud m H1) (SHH 12 (EVS Y KU f P od) Qw ((SPD Y (GOS Y KU Xt f P od) (EVS Y KU f P od) (EGS (GOS Y KU Xt f P od) kN (fun f t => FS f t = true) (EVS Y KU f P od)) kN (fun f t => FS f t = true) KU f P od sa sN si) sp)) ((pd f 0 P + 63) / 64) g0 g1 ((1, (fun _ => st), 0, 0) : RGT) ∧ FRR (ud m H1) m (max 1 (Y 16).1) (FRg Y KU f P od) ∧ ∃ hh, LPQ (ud m H1) (GOS Y KU Xt f P od) (SHH 12 (EVS Y KU f P od) Qw ((SPD Y (GOS Y KU Xt f P od) (EVS Y KU f P od) (EGS (GOS Y KU Xt f P od) kN (fun f t => FS f t = true) (EVS Y KU f P od)) kN (fun f t => FS f t = true) KU f P od sa sN si) sp)) (RGG (max 1 (Y 16).1) (FRg Y KU f P od) (SHH 12 (EVS Y KU f P od) Qw ((SPD Y (GOS Y KU Xt f P od) (EVS Y KU f P od) (EGS (GOS Y KU Xt f P od) kN (fun f t => FS f t = true) (EVS Y KU f P od)) kN (fun f t => FS f t = true) KU f P od sa sN si) sp)) ((1, (fun _ => st), 0, 0) : RGT)) st ro (fun _ => st) (fun _ => 0) (fun _ => 0) (pd f 0 P) (NN - fb) ((pd f 0 P + 63) / 64) 161 0 g0 1 hh) h rfl hU.1.1.2.2.2.2.2.2.2 (by omega) h171 hlb hou hGb.1.1.1 (by omega) hl00 hl10 hlk hwL (by omega) (fun W Q hA uQ eQ => ?_)).imp (fun H1 y => ?_)
  · obtain ⟨q1, gk, ⟨e48, e62⟩, haw⟩ := hA
    have qW : uq FRNG (ud m H) (ud m Q) := by rw [eQ]; exact ((((((q1.mono (G := FRNG) rfl).A rfl).I rfl).I rfl).I rfl).I rfl).I rfl
    have qL : uq FRLG (ud m H) (ud m Q) := by rw [eQ]; exact ((((((q1.mono (G := FRLG) rfl).A rfl).I rfl).I rfl).I rfl).I rfl).I rfl
    have pkW : PKS (ud m H) (ud m Q) := by rw [eQ]; exact PKS.g2 (V := upI (upI (upI (TRB W st) 158 14 5) 158 21 0) 158 16 0) gk e48
    have hRQ := RDX.keep4 hU.1.1.1 qL rfl rfl rfl pkW.1
    have hGQ := hGb.keep qL rfl (NK.of_eq (by rw [eQ]; exact q1.a 147 10 rfl))
    have hFQ := (crd_frr hU hY).eq (qL.r 99 0 rfl) (qL.t 16 rfl) (qL.a 113 3 rfl) pkW.1
    have e1 : lgf (ud m Q) 161 1 = lgf W 161 1 := lgf_pl (by decide) (by rw [eQ]; rfl)
    have hMQ : RGM (ud m Q) (SHH 12 (EVS Y KU f P od) Qw ((SPD Y (GOS Y KU Xt f P od) (EVS Y KU f P od) (EGS (GOS Y KU Xt f P od) kN (fun f t => FS f t = true) (EVS Y KU f P od)) kN (fun f t => FS f t = true) KU f P od sa sN si) sp)) ((pd f 0 P + 63) / 64) g0 g1 ((1, (fun _ => st), 0, 0) : RGT) := by
      refine ⟨⟨by rw [eQ]; rfl, by rw [eQ]; rfl, by rw [eQ]; rfl, by rw [eQ]; rfl⟩, fun j hj => ?_, ⟨pkW.lsn qL (fun _ => rfl) hl00, pkW.lsn qL (fun _ => rfl) hl10⟩, fun t ht => ?_⟩
      · have : j = 0 := by have : j < 1 := hj; omega
        subst this
        rw [eQ]
        rfl
      · rw [e1]
        refine Iff.trans ?_ (hb t ht).2
        unfold bts
        rw [(haw (t / 64) (by omega)).2]
    refine (dr_leg (d := d + 16) (C := C) (R := NN - fb) (NN := NN) (fb := fb) (T := pd f 0 P) (G := (GOS Y KU Xt f P od)) uQ rfl hFQ (by omega) hMQ hGQ ((qL.i 113 2 rfl).trans hnum.1) ((qL.i 113 8 rfl).trans hnum.2.1) hnum.2.2 hZT hTw hI (show 1 ≤ 2000 by decide)).imp (fun H2 y => ?_)
    obtain ⟨u2, r2, Wd, hh2, ⟨y1, y1k⟩, ⟨y2, y2k⟩, y3⟩ := y
    have q2 : uq FRLG (ud m Q) (ud m H2) := (y1.mono (G := FRLG) rfl).trans (y2.mono rfl)
    have pk2 : PKS (ud m Q) (ud m H2) := (PKS.gk y1k).trans (PKS.of_eq (y2.2.2.2.2.2 rfl) (y2.l 148 rfl))
    have nk : NK (ud m Q) (ud m H2) := (NK.of_eq (V := Wd) (y1.a 147 10 rfl)).trans y2k
    have e2 : lgf (ud m H2) 161 1 = lgf (ud m Q) 161 1 := by
      rw [show lgf (ud m H2) 161 1 = lgf Wd 161 1 from lgf_pl (by decide) (congrFun (congrFun (y2.2.2.2.2.2 rfl) 161) 1)]
      exact lgf_ne y1k.toQ ⟨by decide, fun z => absurd z.2 (by decide)⟩
    have qn : uq (⟨[], F314.i, F314.a, F314.n, [148, 162, 150], true⟩ : Uf) (ud m Q) (ud m H2) := (y1.mono (G := (⟨[], F314.i, F314.a, F314.n, [148, 162, 150], true⟩ : Uf)) rfl).trans (y2.mono rfl)
    exact ⟨u2, r2, ⟨qW.trans (q2.mono rfl), pkW.trans pk2⟩, ⟨hRQ.keep4 q2 rfl rfl rfl pk2.1, hGQ.keep q2 rfl nk⟩, hMQ.kp qn pk2 rfl rfl rfl rfl rfl (fun _ => rfl) e2, hFQ.eq (q2.r 99 0 rfl) (q2.t 16 rfl) (q2.a 113 3 rfl) pk2.1, hh2, y3⟩
  · obtain ⟨u1, r1, W, -, y⟩ := y
    exact ⟨⟨u1, r1⟩, y⟩
/-- a ring is set out for -/
theorem crd_ring14 (h : um m H) (hU : CRI (ud m H) m Y es P f od KU Xt ns sa sN si fb NN us S z p nf nm tm bs lv lc oid nw wa wn wi wk nb bo cl al ro Gr me kN FS L4 L8) (hsp : sp < ns) (hns : ns ≤ 2147483648) (h171 : ((ud m H).1 17).2 sp 1 = nI (lst + 1)) (hlb : lst < 2147483646) (hou : ((ud m H).1 0).2 lst 0 = nI 14) (hk7 : ((ud m H).2.2.1 158 7).2 (sp % 64) = nI sp) (hl00 : LSN (ud m H) 161 0 g0 256) (hl10 : LSN (ud m H) 161 1 g1 256) (hgl : ∀ s, s < 64 * ((pd f 0 P + 63) / 64) → (bts (lgf (ud m H) 161 0) s = true ↔ (EVS Y KU f P od) s ∧ Qg s)) (hst : (SHH 14 (EVS Y KU f P od) Qw ((SPD Y (GOS Y KU Xt f P od) (EVS Y KU f P od) (EGS (GOS Y KU Xt f P od) kN (fun f t => FS f t = true) (EVS Y KU f P od)) kN (fun f t => FS f t = true) KU f P od sa sN si) sp)) st) (hY : (Y 16).1 ≤ 4001) : mu_TV (mu_D (d + 21)) 368 [.inr (.inr (some 158)), .inl (nI sp), .inl (nI st)] H (fun H1 => (um m H1 ∧ ur m C H H1) ∧ (uq FRNG (ud m H) (ud m H1) ∧ PKS (ud m H) (ud m H1)) ∧ (RDX (ud m H1) m od Y es P f fb (pd f 0 P) Gr NN us S z p nf nm tm bs lv lc oid nw wa wn wi wk nb bo cl al ro ∧ GRB (ud m H1) (pd f 0 P) (NN - fb) ((pd f 0 P + 63) / 64) ro (fun r => pzz ro r (pd f 0 P)) me) ∧ RGM (ud m H1) (SHH 14 (EVS Y KU f P od) Qw ((SPD Y (GOS Y KU Xt f P od) (EVS Y KU f P od) (EGS (GOS Y KU Xt f P od) kN (fun f t => FS f t = true) (EVS Y KU f P od)) kN (fun f t => FS f t = true) KU f P od sa sN si) sp)) ((pd f 0 P + 63) / 64) g0 g1 ((1, (fun _ => st), 0, 0) : RGT) ∧ FRR (ud m H1) m (max 1 (Y 16).1) (FRg Y KU f P od) ∧ ∃ hh, LPQ (ud m H1) (GOS Y KU Xt f P od) (SHH 14 (EVS Y KU f P od) Qw ((SPD Y (GOS Y KU Xt f P od) (EVS Y KU f P od) (EGS (GOS Y KU Xt f P od) kN (fun f t => FS f t = true) (EVS Y KU f P od)) kN (fun f t => FS f t = true) KU f P od sa sN si) sp)) (RGG (max 1 (Y 16).1) (FRg Y KU f P od) (SHH 14 (EVS Y KU f P od) Qw ((SPD Y (GOS Y KU Xt f P od) (EVS Y KU f P od) (EGS (GOS Y KU Xt f P od) kN (fun f t => FS f t = true) (EVS Y KU f P od)) kN (fun f t => FS f t = true) KU f P od sa sN si) sp)) ((1, (fun _ => st), 0, 0) : RGT)) st ro (fun _ => st) (fun _ => 0) (fun _ => 0) (pd f 0 P) (NN - fb) ((pd f 0 P + 63) / 64) 161 0 g0 1 hh) := by
  have hb := crd_aim (oo := 14) (Qw := Qw) hU hsp hns hk7 hgl (fun y => absurd y (by decide))
  obtain ⟨q, L, hL, hwL, hlk, -⟩ := hU.1.2.2.1.of (i := sp) (by omega) hns hk7
  have hGb := hU.1.1.2.1
  have hnum := RDX.nums hU.1.1.1
  have hTw := hU.tw.1
  have hTb := hU.tw.2
  have hZT : ∀ t, (SHH 14 (EVS Y KU f P od) Qw ((SPD Y (GOS Y KU Xt f P od) (EVS Y KU f P od) (EGS (GOS Y KU Xt f P od) kN (fun f t => FS f t = true) (EVS Y KU f P od)) kN (fun f t => FS f t = true) KU f P od sa sN si) sp)) t → t < pd f 0 P := fun t y => by unfold SHH at y; rw [if_neg (by decide), if_pos rfl] at y; exact y.1.1
  have hI : RGI (GOS Y KU Xt f P od) (SHH 14 (EVS Y KU f P od) Qw ((SPD Y (GOS Y KU Xt f P od) (EVS Y KU f P od) (EGS (GOS Y KU Xt f P od) kN (fun f t => FS f t = true) (EVS Y KU f P od)) kN (fun f t => FS f t = true) KU f P od sa sN si) sp)) (max 1 (Y 16).1) ((1, (fun _ => st), 0, 0) : RGT) := ⟨⟨(show 1 ≤ 1 from Nat.le_refl _), (show 0 < 1 from Nat.zero_lt_one), Nat.zero_le _⟩, fun j _ => hst, fun j hj => absurd (show j + 1 < 1 from hj) (by omega)⟩
  refine (pr_pathG14 (d := d + 16) (C := C) (wn := ((pd f 0 P + 63) / 64)) (PL := fun W H1 => (uq FRNG (ud m H) (ud m H1) ∧ PKS (ud m H) (ud m H1)) ∧ (RDX (ud m H1) m od Y es P f fb (pd f 0 P) Gr NN us S z p nf nm tm bs lv lc oid nw wa wn wi wk nb bo cl al ro ∧ GRB (ud m H1) (pd f 0 P) (NN - fb) ((pd f 0 P + 63) / 64) ro (fun r => pzz ro r (pd f 0 P)) me) ∧ RGM (ud m H1) (SHH 14 (EVS Y KU f P od) Qw ((SPD Y (GOS Y KU Xt f P od) (EVS Y KU f P od) (EGS (GOS Y KU Xt f P od) kN (fun f t => FS f t = true) (EVS Y KU f P od)) kN (fun f t => FS f t = true) KU f P od sa sN si) sp)) ((pd f 0 P + 63) / 64) g0 g1 ((1, (fun _ => st), 0, 0) : RGT) ∧ FRR (ud m H1) m (max 1 (Y 16).1) (FRg Y KU f P od) ∧ ∃ hh, LPQ (ud m H1) (GOS Y KU Xt f P od) (SHH 14 (EVS Y KU f P od) Qw ((SPD Y (GOS Y KU Xt f P od) (EVS Y KU f P od) (EGS (GOS Y KU Xt f P od) kN (fun f t => FS f t = true) (EVS Y KU f P od)) kN (fun f t => FS f t = true) KU f P od sa sN si) sp)) (RGG (max 1 (Y 16).1) (FRg Y KU f P od) (SHH 14 (EVS Y KU f P od) Qw ((SPD Y (GOS Y KU Xt f P od) (EVS Y KU f P od) (EGS (GOS Y KU Xt f P od) kN (fun f t => FS f t = true) (EVS Y KU f P od)) kN (fun f t => FS f t = true) KU f P od sa sN si) sp)) ((1, (fun _ => st), 0, 0) : RGT)) st ro (fun _ => st) (fun _ => 0) (fun _ => 0) (pd f 0 P) (NN - fb) ((pd f 0 P + 63) / 64) 161 0 g0 1 hh) h rfl hU.1.1.2.2.2.2.2.2.2 (by omega) h171 hlb hou hGb.1.1.1 (by omega) hl00 hl10 hlk hwL (by omega) (fun W Q hA uQ eQ => ?_)).imp (fun H1 y => ?_)
  · obtain ⟨q1, gk, ⟨e48, e62⟩, haw⟩ := hA
    have qW : uq FRNG (ud m H) (ud m Q) := by rw [eQ]; exact ((((((q1.mono (G := FRNG) rfl).A rfl).I rfl).I rfl).I rfl).I rfl).I rfl
    have qL : uq FRLG (ud m H) (ud m Q) := by rw [eQ]; exact ((((((q1.mono (G := FRLG) rfl).A rfl).I rfl).I rfl).I rfl).I rfl).I rfl
    have pkW : PKS (ud m H) (ud m Q) := by rw [eQ]; exact PKS.g2 (V := upI (upI (upI (TRB W st) 158 14 5) 158 21 0) 158 16 0) gk e48
    have hRQ := RDX.keep4 hU.1.1.1 qL rfl rfl rfl pkW.1
    have hGQ := hGb.keep qL rfl (NK.of_eq (by rw [eQ]; exact q1.a 147 10 rfl))
    have hFQ := (crd_frr hU hY).eq (qL.r 99 0 rfl) (qL.t 16 rfl) (qL.a 113 3 rfl) pkW.1
    have e1 : lgf (ud m Q) 161 1 = lgf W 161 1 := lgf_pl (by decide) (by rw [eQ]; rfl)
    have hMQ : RGM (ud m Q) (SHH 14 (EVS Y KU f P od) Qw ((SPD Y (GOS Y KU Xt f P od) (EVS Y KU f P od) (EGS (GOS Y KU Xt f P od) kN (fun f t => FS f t = true) (EVS Y KU f P od)) kN (fun f t => FS f t = true) KU f P od sa sN si) sp)) ((pd f 0 P + 63) / 64) g0 g1 ((1, (fun _ => st), 0, 0) : RGT) := by
      refine ⟨⟨by rw [eQ]; rfl, by rw [eQ]; rfl, by rw [eQ]; rfl, by rw [eQ]; rfl⟩, fun j hj => ?_, ⟨pkW.lsn qL (fun _ => rfl) hl00, pkW.lsn qL (fun _ => rfl) hl10⟩, fun t ht => ?_⟩
      · have : j = 0 := by have : j < 1 := hj; omega
        subst this
        rw [eQ]
        rfl
      · rw [e1]
        refine Iff.trans ?_ (hb t ht).2
        unfold bts
        rw [(haw (t / 64) (by omega)).2]
    refine (dr_leg (d := d + 16) (C := C) (R := NN - fb) (NN := NN) (fb := fb) (T := pd f 0 P) (G := (GOS Y KU Xt f P od)) uQ rfl hFQ (by omega) hMQ hGQ ((qL.i 113 2 rfl).trans hnum.1) ((qL.i 113 8 rfl).trans hnum.2.1) hnum.2.2 hZT hTw hI (show 1 ≤ 2000 by decide)).imp (fun H2 y => ?_)
    obtain ⟨u2, r2, Wd, hh2, ⟨y1, y1k⟩, ⟨y2, y2k⟩, y3⟩ := y
    have q2 : uq FRLG (ud m Q) (ud m H2) := (y1.mono (G := FRLG) rfl).trans (y2.mono rfl)
    have pk2 : PKS (ud m Q) (ud m H2) := (PKS.gk y1k).trans (PKS.of_eq (y2.2.2.2.2.2 rfl) (y2.l 148 rfl))
    have nk : NK (ud m Q) (ud m H2) := (NK.of_eq (V := Wd) (y1.a 147 10 rfl)).trans y2k
    have e2 : lgf (ud m H2) 161 1 = lgf (ud m Q) 161 1 := by
      rw [show lgf (ud m H2) 161 1 = lgf Wd 161 1 from lgf_pl (by decide) (congrFun (congrFun (y2.2.2.2.2.2 rfl) 161) 1)]
      exact lgf_ne y1k.toQ ⟨by decide, fun z => absurd z.2 (by decide)⟩
    have qn : uq (⟨[], F314.i, F314.a, F314.n, [148, 162, 150], true⟩ : Uf) (ud m Q) (ud m H2) := (y1.mono (G := (⟨[], F314.i, F314.a, F314.n, [148, 162, 150], true⟩ : Uf)) rfl).trans (y2.mono rfl)
    exact ⟨u2, r2, ⟨qW.trans (q2.mono rfl), pkW.trans pk2⟩, ⟨hRQ.keep4 q2 rfl rfl rfl pk2.1, hGQ.keep q2 rfl nk⟩, hMQ.kp qn pk2 rfl rfl rfl rfl rfl (fun _ => rfl) e2, hFQ.eq (q2.r 99 0 rfl) (q2.t 16 rfl) (q2.a 113 3 rfl) pk2.1, hh2, y3⟩
  · obtain ⟨u1, r1, W, -, y⟩ := y
    exact ⟨⟨u1, r1⟩, y⟩
/-- the ring is led to its end -/
theorem crd_ringD (hU : CRI U m Y es P f od KU Xt ns sa sN si fb NN us S z p nf nm tm bs lv lc oid nw wa wn wi wk nb bo cl al ro Gr me kN FS L4 L8) (h : um m H) (hY : (Y 16).1 ≤ 4001) (hC21 : 2 * (((Y 13).1 + 2) * 4) + 4 ≤ C 21) (hC21b : C 21 ≤ 8388608) (hZ : Z = EGS (GOS Y KU Xt f P od) kN (fun f t => FS f t = true) pp) (hZT : ∀ t, Z t → t < pd f 0 P) (hst : Z st) (hq : uq FRNG U (ud m H) ∧ PKS U (ud m H)) (hR : RDX (ud m H) m od Y es P f fb (pd f 0 P) Gr NN us S z p nf nm tm bs lv lc oid nw wa wn wi wk nb bo cl al ro ∧ GRB (ud m H) (pd f 0 P) (NN - fb) ((pd f 0 P + 63) / 64) ro (fun r => pzz ro r (pd f 0 P)) me) (hM : RGM (ud m H) Z ((pd f 0 P + 63) / 64) g0 g1 ((1, (fun _ => st), 0, 0) : RGT)) (hF : FRR (ud m H) m (max 1 (Y 16).1) (FRg Y KU f P od)) (hL : ∃ hh, LPQ (ud m H) (GOS Y KU Xt f P od) Z (RGG (max 1 (Y 16).1) (FRg Y KU f P od) Z ((1, (fun _ => st), 0, 0) : RGT)) st ro (fun _ => st) (fun _ => 0) (fun _ => 0) (pd f 0 P) (NN - fb) ((pd f 0 P + 63) / 64) 161 0 g0 1 hh) : mu_TV (mu_D (d + 21)) 376 [.inr (.inr (some 0))] H (fun H1 => (um m H1 ∧ ur m C H H1) ∧ (uq FRNG U (ud m H1) ∧ PKS U (ud m H1)) ∧ CRI (ud m H1) m Y es P f od KU Xt ns sa sN si fb NN us S z p nf nm tm bs lv lc oid nw wa wn wi wk nb bo cl al ro Gr me kN FS L4 L8 ∧ ∃ y, RGR (GOS Y KU Xt f P od) Z (max 1 (Y 16).1) (FRg Y KU f P od) ((1, (fun _ => st), 0, 0) : RGT) y ∧ RGI (GOS Y KU Xt f P od) Z (max 1 (Y 16).1) y ∧ y.1 ≤ 2000 ∧ RGZ (ud m H1) (GOS Y KU Xt f P od) Z (max 1 (Y 16).1) (FRg Y KU f P od) y) := by
  have hTb := hU.tw.2
  have hI : RGI (GOS Y KU Xt f P od) Z (max 1 (Y 16).1) ((1, (fun _ => st), 0, 0) : RGT) := ⟨⟨(show 1 ≤ 1 from Nat.le_refl _), (show 0 < 1 from Nat.zero_lt_one), Nat.zero_le _⟩, fun j _ => hst, fun j hj => absurd (show j + 1 < 1 from hj) (by omega)⟩
  refine pv_driveW (fun Φ hΦ => ?_)
  exact dr_ring (d := d) (C := C) (U := U) (G := (GOS Y KU Xt f P od)) (R := NN - fb) (wd := ((pd f 0 P + 63) / 64)) (lg := (max 1 (Y 16).1)) (g := (FRg Y KU f P od)) (x0 := ((1, (fun _ => st), 0, 0) : RGT)) rfl hU.2.1.1 hC21 hC21b hU.2.1.2.2.2 hU.2.1.2.2.1 (fun s t y => y.2.1.1) hU.2.1.2.1 hU.tw.1 hTb hZT (by omega) (by omega) (crd_way hU hZ) (fun H1 y u1 r1 hq1 R1 G1 w1 t1 hr hi hy hz => hΦ H1 ⟨⟨u1, r1⟩, hq1, hU.keepP hq1.1 hq1.2 R1 G1 w1 t1 rfl rfl (fun _ => rfl) (fun _ => rfl) rfl rfl rfl rfl rfl rfl rfl rfl rfl rfl, y, hr, hi, hy, hz⟩) hU.1.1.2.2.2.2.1.1 4001 0 ((1, (fun _ => st), 0, 0) : RGT) H (show 2 * (2001 - 1) ≤ 4001 by decide) (fun _ => show 2 * (2001 - 1) + 1 ≤ 4001 by decide) (by decide) h (ur.refl m C H) hq hR.1 hR.2 hM hF (RGR.refl _) hI (show 1 ≤ 2000 by decide) hL
/-- what was told is shown -/
theorem crd_display (hU : CRI (ud m H) m Y es P f od KU Xt ns sa sN si fb NN us S z p nf nm tm bs lv lc oid nw wa wn wi wk nb bo cl al ro Gr me kN FS L4 L8) (h : um m H) (hT : TOLD (ud m H) cn sh lpo) (hcn : cn ≤ 2000) (hs0 : sh 0 < pd f 0 P) : mu_TI (mu_D (d + 21)) 369 [.inr (.inr (some 158))] H (fun x H1 => x = nI cn ∧ (um m H1 ∧ ur m C H H1) ∧ uq FDSP (ud m H) (ud m H1) ∧ (ud m H1).2.2.2.2 = (ud m H).2.2.2.2 ∧ (ud m H1).2.2.1 147 10 = (ud m H).2.2.1 147 10 ∧ SHN (ud m H1) cn sh lpo ∧ ((ud m H1).2.1 147 14 = 6 ∧ (ud m H1).2.1 147 15 = nI (ro (sh 0)) ∧ (ud m H1).2.1 158 16 = nI 0 ∧ (ud m H1).2.1 158 14 = 6 ∧ (ud m H1).2.1 158 13 = (ud m H).2.1 158 13)) := by
  obtain ⟨⟨t1, t2, t3⟩, t4, t5⟩ := hT
  have hGb := hU.1.1.2.1
  have hr := hGb.2.1.2 _ hs0
  have h6 := hGb.2.1.1
  refine (pr_display (d := d + 19) (C := C) (tc := cn) (s0 := sh 0) (bgv := sI lpo) h rfl t1 hcn t2 t4 (t5 0 (by omega) (by decide)) (by omega) h6.2).imp (fun x H1 y => ?_)
  obtain ⟨y1, u1, r1, e1⟩ := y
  refine ⟨y1, ⟨u1, r1⟩, ?_, by rw [e1]; rfl, by rw [e1]; rfl, ⟨by rw [e1]; rfl, by rw [e1]; rfl, fun j hj => ?_⟩, by rw [e1]; rfl, ?_, by rw [e1]; rfl, by rw [e1]; rfl, by rw [e1]; rfl⟩
  · rw [e1]
    exact (((((((uq.refl FDSP _).F rfl).I rfl).I rfl).I rfl).I rfl).I rfl).I rfl
  · rw [e1]
    show (if 0 ≤ j ∧ j < 0 + cn then ((ud m H).2.2.1 158 8).2 (0 + (j - 0)) else _) = _
    rw [if_pos ⟨Nat.zero_le _, by omega⟩, Nat.zero_add, Nat.sub_zero]
    exact t5 j hj (by omega)
  · rw [e1]
    exact hr.1
/-- what is shown is watched -/
theorem crd_watch (hU : CRI U m Y es P f od KU Xt ns sa sN si fb NN us S z p nf nm tm bs lv lc oid nw wa wn wi wk nb bo cl al ro Gr me kN FS L4 L8) (h : um m H) (hC21 : 2 * (((Y 13).1 + 2) * 4) + 4 ≤ C 21) (hC21b : C 21 ≤ 8388608) (hcn : cn ≤ 2000) (hc1 : 1 ≤ cn) (hgo : ∀ j, j + 1 < cn → (GOS Y KU Xt f P od) (sh j) (sh (j + 1))) (hlp : ∀ j, lpo = some j → j < cn ∧ (GOS Y KU Xt f P od) (sh (cn - 1)) (sh j)) (hsT : ∀ j, j < cn → sh j < pd f 0 P) (hq : uq FDSP U (ud m H)) (he : (ud m H).2.2.2.2 = U.2.2.2.2) (h10 : (ud m H).2.2.1 147 10 = U.2.2.1 147 10) (hS : SHN (ud m H) cn sh lpo) (h6 : (ud m H).2.1 147 14 = 6 ∧ (ud m H).2.1 147 15 = nI (ro (sh 0)) ∧ (ud m H).2.1 158 16 = nI 0 ∧ (ud m H).2.1 158 14 = 6 ∧ (ud m H).2.1 158 13 = sv) : mu_TV (mu_D (d + 21)) 376 [.inr (.inr (some 0))] H (fun H1 => (um m H1 ∧ ur m C H H1) ∧ (uq FSHW U (ud m H1) ∧ PKS U (ud m H1)) ∧ CRI (ud m H1) m Y es P f od KU Xt ns sa sN si fb NN us S z p nf nm tm bs lv lc oid nw wa wn wi wk nb bo cl al ro Gr me kN FS L4 L8 ∧ SHN (ud m H1) cn sh lpo ∧ (ud m H1).2.1 158 13 = sv) := by
  have hTb := hU.tw.2
  have ep : (ud m H).2.2.2.2.2 = U.2.2.2.2.2 := congrArg (fun y => y.2) he
  have el : (ud m H).2.2.2.2.1 = U.2.2.2.2.1 := congrArg (fun y => y.1) he
  have pk0 : PKS U (ud m H) := PKS.of_eq ep (by rw [el])
  have hGb := hU.1.1.2.1
  have hR0 : RDX (ud m H) m od Y es P f fb (pd f 0 P) Gr NN us S z p nf nm tm bs lv lc oid nw wa wn wi wk nb bo cl al ro := RDX.keep4 hU.1.1.1 hq rfl rfl rfl pk0.1
  have hG0 := hGb.keep hq rfl (NK.of_eq h10)
  refine pv_driveW (fun Φ hΦ => ?_)
  refine dr_watch (d := d) (C := C) (H0 := H) (U := ud m H) (G := (GOS Y KU Xt f P od)) (R := NN - fb) (wd := ((pd f 0 P + 63) / 64)) (mb := (fun r => pzz ro r (pd f 0 P))) (me := me) (cn := cn) (sh := sh) (lpo := lpo) (sv := sv) rfl hU.2.1.1 hC21 hC21b hU.2.1.2.2.2 hU.2.1.2.2.1 hS.1 hcn hS.2.1 hlp (fun j hj => ⟨hS.2.2 j hj, hsT j hj⟩) hgo ((hq.r 158 22 rfl).trans hU.1.1.2.2.2.2.1.1) (fun H1 u1 r1 hX t1 s1 w1 => hΦ H1 ?_) (cn - 1) 0 0 H (by omega) (by omega) h (ur.refl m C H) ⟨uq.refl _ _, hR0, hG0⟩ h6.1 h6.2.1 h6.2.2.1 h6.2.2.2.1 h6.2.2.2.2
  obtain ⟨q1, R1, G1⟩ := hX
  have qt : uq FSHW U (ud m H1) := (hq.mono (G := FSHW) rfl).trans (q1.mono rfl)
  have pt : PKS U (ud m H1) := pk0.trans (PKS.of_eq (q1.2.2.2.2.2 rfl) (q1.l 148 rfl))
  refine ⟨⟨u1, r1⟩, ⟨qt, pt⟩, hU.keepP qt pt R1 G1 w1 t1 rfl rfl (fun _ => rfl) (fun _ => rfl) rfl rfl rfl rfl rfl rfl rfl rfl rfl rfl, ⟨(q1.i 158 11 rfl).trans hS.1, (q1.i 158 12 rfl).trans hS.2.1, fun j hj => ?_⟩, s1⟩
  rw [q1.a 158 9 rfl]
  exact hS.2.2 j hj
end ShowRing
