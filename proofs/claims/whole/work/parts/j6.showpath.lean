/-! SHOW: a path is set out for, led and told, in the ready state -/
/-- where a path is to lead -/
def SHT (o : Nat) (E Fr Qg : Nat → Prop) (t : Nat) : Prop := E t ∧ sgz o Qg t ∧ Fr t
/-- what it goes through, or stays in -/
def SHH (o : Nat) (E Qw D : Nat → Prop) (t : Nat) : Prop := if o = 12 then E t ∧ D t else if o = 14 then E t ∧ ¬ D t else if o = 10 ∨ o = 13 then False else if o = 28 then E t ∧ Qw t else E t
/-- what is told and not shown yet -/
def TOLD (V : Ud) (cn : Nat) (sh : Nat → Nat) (lpo : Option Nat) : Prop := (V.2.1 158 10 = nI cn ∧ 1 ≤ cn ∧ cn ≤ 20000) ∧ V.2.1 158 21 = sI lpo ∧ ∀ j, j < cn → j < 2001 → (V.2.2.1 158 8).2 j = nI (sh j)
section ShowPath
variable {H H0 H1 : mu_H} {U V KU Xt : Ud} {m d P fb NN us nf nw nb kN ns sp : Nat} {C : Nat → Nat} {Y : Ts} {f od bs lv lc wa wn wi cl ro z me sa sN si : Nat → Nat} {es nm tm : Nat → Int32} {wk p : Nat → Bool} {S FS : Nat → Nat → Bool} {bo oid : Nat → Nat → Nat} {Gr : Nat → Nat → Prop} {al : Nat → Prop} {L4 L8 : Nat → Int64} {F : Uf}
variable {g0 g1 st lst q1 cn : Nat} {Qg Qw : Nat → Prop} {E Fr D : Nat → Prop} {L0 L1 Lk : Nat → Int64} {s oo : Nat} {W X : Ud} {sh : Nat → Nat} {lpo : Option Nat}
theorem btz_neg {x : Int64} {q : Nat} (hq : q < 64) : btz (x ^^^ (-1 : Int64)) q = true ↔ ¬ btz x q = true := by
  rw [btz_xor, btz_m1 hq]
  cases btz x q <;> decide
theorem amg_bit {T1 : Nat} (hg : bts L0 s = true ↔ E s ∧ Qg s) (hf : s < T1 → (bts L8 s = true ↔ Fr s)) (hf2 : bts L8 s = true → s < T1) (hFE : Fr s → E s) (hET : E s → s < T1) : btz (amg oo (L0 (s / 64)) (L8 (s / 64))) (s % 64) = true ↔ SHT oo E Fr Qg s := by
  have hm : s % 64 < 64 := Nat.mod_lt s (by decide)
  unfold bts at hg hf hf2
  unfold amg SHT sgz
  rw [btz_and, Bool.and_eq_true]
  by_cases c : 13 ≤ oo ∧ oo ≤ 15
  · rw [if_pos c, if_pos c, btz_neg hm, hg]
    constructor
    · rintro ⟨y1, y2⟩
      have y3 := (hf (hf2 y2)).mp y2
      exact ⟨hFE y3, fun y => y1 ⟨hFE y3, y⟩, y3⟩
    · rintro ⟨y1, y2, y3⟩
      exact ⟨fun y => y2 y.2, (hf (hET y1)).mpr y3⟩
  · rw [if_neg c, if_neg c, hg]
    constructor
    · rintro ⟨⟨y1, y2⟩, y3⟩
      exact ⟨y1, y2, (hf (hET y1)).mp y3⟩
    · rintro ⟨y1, y2, y3⟩
      exact ⟨⟨y1, y2⟩, (hf (hET y1)).mpr y3⟩
theorem amt_bit (hk : bts Lk s = true ↔ E s ∧ D s) (he : bts L4 s = true ↔ E s) (hw : oo = 28 → (bts L1 s = true ↔ E s ∧ Qw s)) : btz (amt oo (L1 (s / 64)) (Lk (s / 64)) (L4 (s / 64))) (s % 64) = true ↔ SHH oo E Qw D s := by
  have hm : s % 64 < 64 := Nat.mod_lt s (by decide)
  unfold bts at hk he hw
  unfold amt SHH
  by_cases c1 : oo = 12
  · rw [if_pos c1, if_pos c1]; exact hk
  · rw [if_neg c1, if_neg c1]
    by_cases c2 : oo = 14
    · rw [if_pos c2, if_pos c2, btz_and, Bool.and_eq_true, btz_neg hm, hk, he]
      exact ⟨fun y => ⟨y.1, fun w => y.2 ⟨y.1, w⟩⟩, fun y => ⟨y.1, fun w => y.2 w.2⟩⟩
    · rw [if_neg c2, if_neg c2]
      by_cases c3 : oo = 10 ∨ oo = 13
      · rw [if_pos c3, if_pos c3, btz_0]
        exact ⟨fun y => (by cases y), fun y => y.elim⟩
      · rw [if_neg c3, if_neg c3]
        by_cases c4 : oo = 28
        · rw [if_pos c4, if_pos c4]; exact hw c4
        · rw [if_neg c4, if_neg c4]; exact he
theorem PKS.g2 (h : GK2 U V) (e : V.2.2.2.2.1 148 = U.2.2.2.2.1 148) : PKS U V := by
  refine ⟨funext fun c => h.1 114 c (fun y => absurd y.1 (by decide)), funext fun c => h.1 163 c (fun y => absurd y.1 (by decide)), fun c => ?_, e⟩
  by_cases c0 : 0 = c
  · rw [← c0]; exact h.2.1
  · by_cases c1 : 1 = c
    · rw [← c1]; exact h.2.2
    · rw [h.1 161 c (fun y => y.2.elim c0 c1)]
/-- the ready state stays over what a path does -/
theorem CRI.keepP (h : CRI U m Y es P f od KU Xt ns sa sN si fb NN us S z p nf nm tm bs lv lc oid nw wa wn wi wk nb bo cl al ro Gr me kN FS L4 L8) (hq : uq F U V) (hk : PKS U V) (hR : RDX V m od Y es P f fb (pd f 0 P) Gr NN us S z p nf nm tm bs lv lc oid nw wa wn wi wk nb bo cl al ro) (hG : GRB V (pd f 0 P) (NN - fb) ((pd f 0 P + 63) / 64) ro (fun r => pzz ro r (pd f 0 P)) me) (h15 : V.2.1 147 15 = -1) (h14 : V.2.1 158 14 = 0) (k1 : in2 F.i 99 19 = false) (k2 : in2 F.a 113 3 = false) (k3 : ∀ c, in2 F.n 161 c = false) (k4 : ∀ c, in2 F.n 163 c = false) (k5 : in2 F.n 158 22 = false) (k6 : in1 F.l 124 = false) (k7 : in1 F.l 125 = false) (k8 : in1 F.l 149 = false) (k9 : in1 F.t 0 = false) (l1 : in1 F.t 15 = false) (l2 : in1 F.t 16 = false) (l3 : in2 F.n 99 0 = false) (l4 : in2 F.a 158 7 = false) (l5 : in2 F.a 99 8 = false) : CRI V m Y es P f od KU Xt ns sa sN si fb NN us S z p nf nm tm bs lv lc oid nw wa wn wi wk nb bo cl al ro Gr me kN FS L4 L8 := by
  obtain ⟨⟨⟨w1, w2, w3, w4, ⟨w5, w6⟩, ⟨w7, w8⟩, w9, w10⟩, x14, hK, x15, x98⟩, h2, ⟨h3, h4⟩, ⟨h5, h5b, h6⟩, h7, h8⟩ := h
  have e1 : V.2.2.2.2.1 125 = U.2.2.2.2.1 125 := hq.l 125 k7
  have e2 : V.2.2.2.2.1 149 = U.2.2.2.2.1 149 := hq.l 149 k8
  have e3 : V.1 16 = U.1 16 := hq.t 16 l2
  refine ⟨⟨⟨hR, hG, w3.eq (hq.i 99 19 k1) (hq.a 113 3 k2) (fun c => by rw [hk.1]), hk.pls hq k3 k4 w4, ⟨(hq.r 158 22 k5).trans w5, h15⟩, ⟨(hq.l 124 k6).trans w7, hk.2.2.2.trans w8⟩, (hq.t 0 k9).trans w9, (hq.r 99 0 l3).trans w10⟩, h14, hK.same (by rw [hq.a 158 7 l4]) (fun c => hq.r 163 c (k4 c)) hk.2.1, (hq.t 15 l1).trans x15, (hq.a 99 8 l5).trans x98⟩, h2, ⟨h3, by rw [e1]; exact h4⟩, ⟨h5, h5b, by rw [e2]; exact h6⟩, ?_, ?_⟩
  · rw [e3]; exact h7
  · rw [e3]; exact h8
theorem CRI.fE : ∀ s, (EGS (GOS Y KU Xt f P od) kN (fun f t => FS f t = true) (EVS Y KU f P od)) s → (EVS Y KU f P od) s := fun s y => y.inside
/-- the sets that aim lays out -/
theorem crd_aim (hU : CRI (ud m H) m Y es P f od KU Xt ns sa sN si fb NN us S z p nf nm tm bs lv lc oid nw wa wn wi wk nb bo cl al ro Gr me kN FS L4 L8) (hsp : sp < ns) (hns : ns ≤ 2147483648) (hk7 : ((ud m H).2.2.1 158 7).2 (sp % 64) = nI sp) (hgl : ∀ s, s < 64 * ((pd f 0 P + 63) / 64) → (bts (lgf (ud m H) 161 0) s = true ↔ (EVS Y KU f P od) s ∧ Qg s)) (hwy : oo = 28 → ∀ s, s < 64 * ((pd f 0 P + 63) / 64) → (bts (lgf (ud m H) 161 1) s = true ↔ (EVS Y KU f P od) s ∧ Qw s)) : ∀ s, s < 64 * ((pd f 0 P + 63) / 64) → (btz (amg oo (lgf (ud m H) 161 0 (s / 64)) ((ud m H).2.2.2.2.1 148 (s / 64))) (s % 64) = true ↔ SHT oo (EVS Y KU f P od) (EGS (GOS Y KU Xt f P od) kN (fun f t => FS f t = true) (EVS Y KU f P od)) Qg s) ∧ (btz (amt oo (lgf (ud m H) 161 1 (s / 64)) (lgf (ud m H) 163 (sp % 64) (s / 64)) ((ud m H).2.2.2.2.1 124 (s / 64))) (s % 64) = true ↔ SHH oo (EVS Y KU f P od) Qw ((SPD Y (GOS Y KU Xt f P od) (EVS Y KU f P od) (EGS (GOS Y KU Xt f P od) kN (fun f t => FS f t = true) (EVS Y KU f P od)) kN (fun f t => FS f t = true) KU f P od sa sN si) sp) s) := by
  intro s hs
  obtain ⟨q, L, -, -, -, hkk⟩ := hU.1.2.2.1.of (i := sp) (by omega) hns hk7
  rw [hU.1.1.2.2.2.2.2.1.2, hU.1.1.2.2.2.2.2.1.1]
  exact ⟨amg_bit (hgl s hs) (fun h => hU.2.2.2.1.1 s h) (fun y => hU.2.2.2.1.2.1 s hs y) (CRI.fE s) (CRI.eT s), amt_bit (hkk s hs) (hU.bE s hs) (fun c => hwy c s hs)⟩
/-- a path is led -/
theorem crd_led10 (h : um m H) (hU : CRI (ud m H) m Y es P f od KU Xt ns sa sN si fb NN us S z p nf nm tm bs lv lc oid nw wa wn wi wk nb bo cl al ro Gr me kN FS L4 L8) (hsp : sp < ns) (hns : ns ≤ 2147483648) (h171 : ((ud m H).1 17).2 sp 1 = nI (lst + 1)) (hlb : lst < 2147483646) (hou : ((ud m H).1 0).2 lst 0 = nI 10) (hk7 : ((ud m H).2.2.1 158 7).2 (sp % 64) = nI sp) (hl00 : LSN (ud m H) 161 0 g0 256) (hl10 : LSN (ud m H) 161 1 g1 256) (hgl : ∀ s, s < 64 * ((pd f 0 P + 63) / 64) → (bts (lgf (ud m H) 161 0) s = true ↔ (EVS Y KU f P od) s ∧ Qg s)) (hst : (EVS Y KU f P od) st) : mu_TV (mu_D (d + 21)) 368 [.inr (.inr (some 158)), .inl (nI sp), .inl (nI st)] H (fun H1 => (um m H1 ∧ ur m C H H1) ∧ (uq FRNG (ud m H) (ud m H1) ∧ PKS (ud m H) (ud m H1)) ∧ (RDX (ud m H1) m od Y es P f fb (pd f 0 P) Gr NN us S z p nf nm tm bs lv lc oid nw wa wn wi wk nb bo cl al ro ∧ GRB (ud m H1) (pd f 0 P) (NN - fb) ((pd f 0 P + 63) / 64) ro (fun r => pzz ro r (pd f 0 P)) me) ∧ (∃ hh, LPQ (ud m H1) (GOS Y KU Xt f P od) (SHH 10 (EVS Y KU f P od) Qw ((SPD Y (GOS Y KU Xt f P od) (EVS Y KU f P od) (EGS (GOS Y KU Xt f P od) kN (fun f t => FS f t = true) (EVS Y KU f P od)) kN (fun f t => FS f t = true) KU f P od sa sN si) sp)) (SHT 10 (EVS Y KU f P od) (EGS (GOS Y KU Xt f P od) kN (fun f t => FS f t = true) (EVS Y KU f P od)) Qg) st ro (fun _ => st) (fun _ => 0) (fun _ => 0) (pd f 0 P) (NN - fb) ((pd f 0 P + 63) / 64) 161 0 g0 1 hh) ∧ ((ud m H1).2.1 158 14 = 4 ∧ (ud m H1).2.1 158 10 = nI 1 ∧ (ud m H1).2.1 158 21 = -1) ∧ ((ud m H1).2.2.1 158 8).2 0 = nI st) := by
  have hb := crd_aim (oo := 10) (Qw := Qw) hU hsp hns hk7 hgl (fun y => absurd y (by decide))
  obtain ⟨q, L, hL, hwL, hlk, -⟩ := hU.1.2.2.1.of (i := sp) (by omega) hns hk7
  have hGb := hU.1.1.2.1
  have hnum := RDX.nums hU.1.1.1
  have hTw := hU.tw.1
  have hTb := hU.tw.2
  have hstT := hst.1
  refine (pr_pathL10 (d := d + 16) (C := C) (G := (GOS Y KU Xt f P od)) (T := pd f 0 P) (R := NN - fb) (wn := ((pd f 0 P + 63) / 64)) (rx := ro) (mb := (fun r => pzz ro r (pd f 0 P))) (me := me) (N := NN) (fb := fb) h rfl hU.1.1.2.2.2.2.2.2.2 (by omega) h171 hlb hou hGb.1.1.1 (by omega) hl00 hl10 hlk hwL (by omega) hstT (by omega) hGb hnum.1 hnum.2.1 hnum.2.2 rfl (fun s hs y => y.elim (fun y => ?_) (fun y => ((hb s hs).1.mp y).1.1))).imp (fun H1 y => ?_)
  · have z := (hb s hs).2.mp y
    unfold SHH at z
    rw [if_neg (by decide), if_neg (by decide), if_pos (by decide)] at z; exact z.elim
  · obtain ⟨u1, r1, W, ⟨q1, gk, ⟨e48, e62⟩, haw⟩, z1, nk, hh, hq⟩ := y
    have qW : uq FRNG (ud m H) (upI (TRB W st) 158 14 4) := ((((q1.mono (G := FRNG) rfl).A rfl).I rfl).I rfl).I rfl
    have pkW : PKS (ud m H) (upI (TRB W st) 158 14 4) := PKS.g2 (V := upI (TRB W st) 158 14 4) gk e48
    have pk1 : PKS (upI (TRB W st) 158 14 4) (ud m H1) := PKS.of_eq (z1.2.2.2.2.2 rfl) (z1.l 148 rfl)
    have qF : uq FRLG (ud m H) (ud m H1) := (((((q1.mono (G := FRLG) rfl).A rfl).I rfl).I rfl).I rfl).trans (z1.mono rfl)
    have eT : (fun t => t < pd f 0 P ∧ bts (lgf W 161 1) t = true) = (SHH 10 (EVS Y KU f P od) Qw ((SPD Y (GOS Y KU Xt f P od) (EVS Y KU f P od) (EGS (GOS Y KU Xt f P od) kN (fun f t => FS f t = true) (EVS Y KU f P od)) kN (fun f t => FS f t = true) KU f P od sa sN si) sp)) := funext fun t => propext ⟨fun y => (hb t (by have := y.1; omega)).2.mp (by have w := y.2; unfold bts at w; rw [(haw (t / 64) (by have := y.1; omega)).2] at w; exact w), fun y => by
      have ht : t < pd f 0 P := by unfold SHH at y; rw [if_neg (by decide), if_neg (by decide), if_pos (by decide)] at y; exact y.elim
      exact ⟨ht, by unfold bts; rw [(haw (t / 64) (by omega)).2]; exact (hb t (by omega)).2.mpr y⟩⟩
    have eO : (fun t => t < pd f 0 P ∧ bts (lgf W 161 0) t = true) = (SHT 10 (EVS Y KU f P od) (EGS (GOS Y KU Xt f P od) kN (fun f t => FS f t = true) (EVS Y KU f P od)) Qg) := funext fun t => propext ⟨fun y => (hb t (by have := y.1; omega)).1.mp (by have w := y.2; unfold bts at w; rw [(haw (t / 64) (by have := y.1; omega)).1] at w; exact w), fun y => by
      have ht : t < pd f 0 P := y.1.1
      exact ⟨ht, by unfold bts; rw [(haw (t / 64) (by omega)).1]; exact (hb t (by omega)).1.mpr y⟩⟩
    rw [eT, eO] at hq
    refine ⟨⟨u1, r1⟩, ⟨qW.trans (z1.mono rfl), pkW.trans pk1⟩, ⟨RDX.keep4 hU.1.1.1 qF rfl rfl rfl (pkW.trans pk1).1, hGb.keep qF rfl ((NK.of_eq (V := upI (TRB W st) 158 14 4) (q1.a 147 10 rfl)).trans nk)⟩, ⟨hh, hq⟩, ⟨(z1.i 158 14 rfl).trans rfl, (z1.i 158 10 rfl).trans rfl, (z1.i 158 21 rfl).trans rfl⟩, ?_⟩
    rw [z1.a 158 8 rfl]
    rfl
/-- a path is led -/
theorem crd_led11 (h : um m H) (hU : CRI (ud m H) m Y es P f od KU Xt ns sa sN si fb NN us S z p nf nm tm bs lv lc oid nw wa wn wi wk nb bo cl al ro Gr me kN FS L4 L8) (hsp : sp < ns) (hns : ns ≤ 2147483648) (h171 : ((ud m H).1 17).2 sp 1 = nI (lst + 1)) (hlb : lst < 2147483646) (hou : ((ud m H).1 0).2 lst 0 = nI 11) (hk7 : ((ud m H).2.2.1 158 7).2 (sp % 64) = nI sp) (hl00 : LSN (ud m H) 161 0 g0 256) (hl10 : LSN (ud m H) 161 1 g1 256) (hgl : ∀ s, s < 64 * ((pd f 0 P + 63) / 64) → (bts (lgf (ud m H) 161 0) s = true ↔ (EVS Y KU f P od) s ∧ Qg s)) (hst : (EVS Y KU f P od) st) (hno : ¬ (SHT 11 (EVS Y KU f P od) (EGS (GOS Y KU Xt f P od) kN (fun f t => FS f t = true) (EVS Y KU f P od)) Qg) st) : mu_TV (mu_D (d + 21)) 368 [.inr (.inr (some 158)), .inl (nI sp), .inl (nI st)] H (fun H1 => (um m H1 ∧ ur m C H H1) ∧ (uq FRNG (ud m H) (ud m H1) ∧ PKS (ud m H) (ud m H1)) ∧ (RDX (ud m H1) m od Y es P f fb (pd f 0 P) Gr NN us S z p nf nm tm bs lv lc oid nw wa wn wi wk nb bo cl al ro ∧ GRB (ud m H1) (pd f 0 P) (NN - fb) ((pd f 0 P + 63) / 64) ro (fun r => pzz ro r (pd f 0 P)) me) ∧ (∃ hh, LPQ (ud m H1) (GOS Y KU Xt f P od) (SHH 11 (EVS Y KU f P od) Qw ((SPD Y (GOS Y KU Xt f P od) (EVS Y KU f P od) (EGS (GOS Y KU Xt f P od) kN (fun f t => FS f t = true) (EVS Y KU f P od)) kN (fun f t => FS f t = true) KU f P od sa sN si) sp)) (SHT 11 (EVS Y KU f P od) (EGS (GOS Y KU Xt f P od) kN (fun f t => FS f t = true) (EVS Y KU f P od)) Qg) st ro (fun _ => st) (fun _ => 0) (fun _ => 0) (pd f 0 P) (NN - fb) ((pd f 0 P + 63) / 64) 161 0 g0 1 hh) ∧ ((ud m H1).2.1 158 14 = 4 ∧ (ud m H1).2.1 158 10 = nI 1 ∧ (ud m H1).2.1 158 21 = -1) ∧ ((ud m H1).2.2.1 158 8).2 0 = nI st) := by
  have hb := crd_aim (oo := 11) (Qw := Qw) hU hsp hns hk7 hgl (fun y => absurd y (by decide))
  obtain ⟨q, L, hL, hwL, hlk, -⟩ := hU.1.2.2.1.of (i := sp) (by omega) hns hk7
  have hGb := hU.1.1.2.1
  have hnum := RDX.nums hU.1.1.1
  have hTw := hU.tw.1
  have hTb := hU.tw.2
  have hstT := hst.1
  refine (pr_pathL11 (d := d + 16) (C := C) (G := (GOS Y KU Xt f P od)) (T := pd f 0 P) (R := NN - fb) (wn := ((pd f 0 P + 63) / 64)) (rx := ro) (mb := (fun r => pzz ro r (pd f 0 P))) (me := me) (N := NN) (fb := fb) h rfl hU.1.1.2.2.2.2.2.2.2 (by omega) h171 hlb hou hGb.1.1.1 (by omega) hl00 hl10 hlk hwL (by omega) hstT (by omega) (fun y => hno ((hb st (by omega)).1.mp y)) hGb hnum.1 hnum.2.1 hnum.2.2 rfl (fun s hs y => y.elim (fun y => ?_) (fun y => ((hb s hs).1.mp y).1.1))).imp (fun H1 y => ?_)
  · have z := (hb s hs).2.mp y
    unfold SHH at z
    rw [if_neg (by decide), if_neg (by decide), if_neg (by decide), if_neg (by decide)] at z; exact z.1
  · obtain ⟨u1, r1, W, ⟨q1, gk, ⟨e48, e62⟩, haw⟩, z1, nk, hh, hq⟩ := y
    have qW : uq FRNG (ud m H) (upI (TRB W st) 158 14 4) := ((((q1.mono (G := FRNG) rfl).A rfl).I rfl).I rfl).I rfl
    have pkW : PKS (ud m H) (upI (TRB W st) 158 14 4) := PKS.g2 (V := upI (TRB W st) 158 14 4) gk e48
    have pk1 : PKS (upI (TRB W st) 158 14 4) (ud m H1) := PKS.of_eq (z1.2.2.2.2.2 rfl) (z1.l 148 rfl)
    have qF : uq FRLG (ud m H) (ud m H1) := (((((q1.mono (G := FRLG) rfl).A rfl).I rfl).I rfl).I rfl).trans (z1.mono rfl)
    have eT : (fun t => t < pd f 0 P ∧ bts (lgf W 161 1) t = true) = (SHH 11 (EVS Y KU f P od) Qw ((SPD Y (GOS Y KU Xt f P od) (EVS Y KU f P od) (EGS (GOS Y KU Xt f P od) kN (fun f t => FS f t = true) (EVS Y KU f P od)) kN (fun f t => FS f t = true) KU f P od sa sN si) sp)) := funext fun t => propext ⟨fun y => (hb t (by have := y.1; omega)).2.mp (by have w := y.2; unfold bts at w; rw [(haw (t / 64) (by have := y.1; omega)).2] at w; exact w), fun y => by
      have ht : t < pd f 0 P := by unfold SHH at y; rw [if_neg (by decide), if_neg (by decide), if_neg (by decide), if_neg (by decide)] at y; exact y.1
      exact ⟨ht, by unfold bts; rw [(haw (t / 64) (by omega)).2]; exact (hb t (by omega)).2.mpr y⟩⟩
    have eO : (fun t => t < pd f 0 P ∧ bts (lgf W 161 0) t = true) = (SHT 11 (EVS Y KU f P od) (EGS (GOS Y KU Xt f P od) kN (fun f t => FS f t = true) (EVS Y KU f P od)) Qg) := funext fun t => propext ⟨fun y => (hb t (by have := y.1; omega)).1.mp (by have w := y.2; unfold bts at w; rw [(haw (t / 64) (by have := y.1; omega)).1] at w; exact w), fun y => by
      have ht : t < pd f 0 P := y.1.1
      exact ⟨ht, by unfold bts; rw [(haw (t / 64) (by omega)).1]; exact (hb t (by omega)).1.mpr y⟩⟩
    rw [eT, eO] at hq
    refine ⟨⟨u1, r1⟩, ⟨qW.trans (z1.mono rfl), pkW.trans pk1⟩, ⟨RDX.keep4 hU.1.1.1 qF rfl rfl rfl (pkW.trans pk1).1, hGb.keep qF rfl ((NK.of_eq (V := upI (TRB W st) 158 14 4) (q1.a 147 10 rfl)).trans nk)⟩, ⟨hh, hq⟩, ⟨(z1.i 158 14 rfl).trans rfl, (z1.i 158 10 rfl).trans rfl, (z1.i 158 21 rfl).trans rfl⟩, ?_⟩
    rw [z1.a 158 8 rfl]
    rfl
/-- a path is led -/
theorem crd_led13 (h : um m H) (hU : CRI (ud m H) m Y es P f od KU Xt ns sa sN si fb NN us S z p nf nm tm bs lv lc oid nw wa wn wi wk nb bo cl al ro Gr me kN FS L4 L8) (hsp : sp < ns) (hns : ns ≤ 2147483648) (h171 : ((ud m H).1 17).2 sp 1 = nI (lst + 1)) (hlb : lst < 2147483646) (hou : ((ud m H).1 0).2 lst 0 = nI 13) (hk7 : ((ud m H).2.2.1 158 7).2 (sp % 64) = nI sp) (hl00 : LSN (ud m H) 161 0 g0 256) (hl10 : LSN (ud m H) 161 1 g1 256) (hgl : ∀ s, s < 64 * ((pd f 0 P + 63) / 64) → (bts (lgf (ud m H) 161 0) s = true ↔ (EVS Y KU f P od) s ∧ Qg s)) (hst : (EVS Y KU f P od) st) : mu_TV (mu_D (d + 21)) 368 [.inr (.inr (some 158)), .inl (nI sp), .inl (nI st)] H (fun H1 => (um m H1 ∧ ur m C H H1) ∧ (uq FRNG (ud m H) (ud m H1) ∧ PKS (ud m H) (ud m H1)) ∧ (RDX (ud m H1) m od Y es P f fb (pd f 0 P) Gr NN us S z p nf nm tm bs lv lc oid nw wa wn wi wk nb bo cl al ro ∧ GRB (ud m H1) (pd f 0 P) (NN - fb) ((pd f 0 P + 63) / 64) ro (fun r => pzz ro r (pd f 0 P)) me) ∧ (∃ hh, LPQ (ud m H1) (GOS Y KU Xt f P od) (SHH 13 (EVS Y KU f P od) Qw ((SPD Y (GOS Y KU Xt f P od) (EVS Y KU f P od) (EGS (GOS Y KU Xt f P od) kN (fun f t => FS f t = true) (EVS Y KU f P od)) kN (fun f t => FS f t = true) KU f P od sa sN si) sp)) (SHT 13 (EVS Y KU f P od) (EGS (GOS Y KU Xt f P od) kN (fun f t => FS f t = true) (EVS Y KU f P od)) Qg) st ro (fun _ => st) (fun _ => 0) (fun _ => 0) (pd f 0 P) (NN - fb) ((pd f 0 P + 63) / 64) 161 0 g0 1 hh) ∧ ((ud m H1).2.1 158 14 = 4 ∧ (ud m H1).2.1 158 10 = nI 1 ∧ (ud m H1).2.1 158 21 = -1) ∧ ((ud m H1).2.2.1 158 8).2 0 = nI st) := by
  have hb := crd_aim (oo := 13) (Qw := Qw) hU hsp hns hk7 hgl (fun y => absurd y (by decide))
  obtain ⟨q, L, hL, hwL, hlk, -⟩ := hU.1.2.2.1.of (i := sp) (by omega) hns hk7
  have hGb := hU.1.1.2.1
  have hnum := RDX.nums hU.1.1.1
  have hTw := hU.tw.1
  have hTb := hU.tw.2
  have hstT := hst.1
  refine (pr_pathL13 (d := d + 16) (C := C) (G := (GOS Y KU Xt f P od)) (T := pd f 0 P) (R := NN - fb) (wn := ((pd f 0 P + 63) / 64)) (rx := ro) (mb := (fun r => pzz ro r (pd f 0 P))) (me := me) (N := NN) (fb := fb) h rfl hU.1.1.2.2.2.2.2.2.2 (by omega) h171 hlb hou hGb.1.1.1 (by omega) hl00 hl10 hlk hwL (by omega) hstT (by omega) hGb hnum.1 hnum.2.1 hnum.2.2 rfl (fun s hs y => y.elim (fun y => ?_) (fun y => ((hb s hs).1.mp y).1.1))).imp (fun H1 y => ?_)
  · have z := (hb s hs).2.mp y
    unfold SHH at z
    rw [if_neg (by decide), if_neg (by decide), if_pos (by decide)] at z; exact z.elim
  · obtain ⟨u1, r1, W, ⟨q1, gk, ⟨e48, e62⟩, haw⟩, z1, nk, hh, hq⟩ := y
    have qW : uq FRNG (ud m H) (upI (TRB W st) 158 14 4) := ((((q1.mono (G := FRNG) rfl).A rfl).I rfl).I rfl).I rfl
    have pkW : PKS (ud m H) (upI (TRB W st) 158 14 4) := PKS.g2 (V := upI (TRB W st) 158 14 4) gk e48
    have pk1 : PKS (upI (TRB W st) 158 14 4) (ud m H1) := PKS.of_eq (z1.2.2.2.2.2 rfl) (z1.l 148 rfl)
    have qF : uq FRLG (ud m H) (ud m H1) := (((((q1.mono (G := FRLG) rfl).A rfl).I rfl).I rfl).I rfl).trans (z1.mono rfl)
    have eT : (fun t => t < pd f 0 P ∧ bts (lgf W 161 1) t = true) = (SHH 13 (EVS Y KU f P od) Qw ((SPD Y (GOS Y KU Xt f P od) (EVS Y KU f P od) (EGS (GOS Y KU Xt f P od) kN (fun f t => FS f t = true) (EVS Y KU f P od)) kN (fun f t => FS f t = true) KU f P od sa sN si) sp)) := funext fun t => propext ⟨fun y => (hb t (by have := y.1; omega)).2.mp (by have w := y.2; unfold bts at w; rw [(haw (t / 64) (by have := y.1; omega)).2] at w; exact w), fun y => by
      have ht : t < pd f 0 P := by unfold SHH at y; rw [if_neg (by decide), if_neg (by decide), if_pos (by decide)] at y; exact y.elim
      exact ⟨ht, by unfold bts; rw [(haw (t / 64) (by omega)).2]; exact (hb t (by omega)).2.mpr y⟩⟩
    have eO : (fun t => t < pd f 0 P ∧ bts (lgf W 161 0) t = true) = (SHT 13 (EVS Y KU f P od) (EGS (GOS Y KU Xt f P od) kN (fun f t => FS f t = true) (EVS Y KU f P od)) Qg) := funext fun t => propext ⟨fun y => (hb t (by have := y.1; omega)).1.mp (by have w := y.2; unfold bts at w; rw [(haw (t / 64) (by have := y.1; omega)).1] at w; exact w), fun y => by
      have ht : t < pd f 0 P := y.1.1
      exact ⟨ht, by unfold bts; rw [(haw (t / 64) (by omega)).1]; exact (hb t (by omega)).1.mpr y⟩⟩
    rw [eT, eO] at hq
    refine ⟨⟨u1, r1⟩, ⟨qW.trans (z1.mono rfl), pkW.trans pk1⟩, ⟨RDX.keep4 hU.1.1.1 qF rfl rfl rfl (pkW.trans pk1).1, hGb.keep qF rfl ((NK.of_eq (V := upI (TRB W st) 158 14 4) (q1.a 147 10 rfl)).trans nk)⟩, ⟨hh, hq⟩, ⟨(z1.i 158 14 rfl).trans rfl, (z1.i 158 10 rfl).trans rfl, (z1.i 158 21 rfl).trans rfl⟩, ?_⟩
    rw [z1.a 158 8 rfl]
    rfl
/-- a path is led -/
theorem crd_led15 (h : um m H) (hU : CRI (ud m H) m Y es P f od KU Xt ns sa sN si fb NN us S z p nf nm tm bs lv lc oid nw wa wn wi wk nb bo cl al ro Gr me kN FS L4 L8) (hsp : sp < ns) (hns : ns ≤ 2147483648) (h171 : ((ud m H).1 17).2 sp 1 = nI (lst + 1)) (hlb : lst < 2147483646) (hou : ((ud m H).1 0).2 lst 0 = nI 15) (hk7 : ((ud m H).2.2.1 158 7).2 (sp % 64) = nI sp) (hl00 : LSN (ud m H) 161 0 g0 256) (hl10 : LSN (ud m H) 161 1 g1 256) (hgl : ∀ s, s < 64 * ((pd f 0 P + 63) / 64) → (bts (lgf (ud m H) 161 0) s = true ↔ (EVS Y KU f P od) s ∧ Qg s)) (hst : (EVS Y KU f P od) st) (hno : ¬ (SHT 15 (EVS Y KU f P od) (EGS (GOS Y KU Xt f P od) kN (fun f t => FS f t = true) (EVS Y KU f P od)) Qg) st) : mu_TV (mu_D (d + 21)) 368 [.inr (.inr (some 158)), .inl (nI sp), .inl (nI st)] H (fun H1 => (um m H1 ∧ ur m C H H1) ∧ (uq FRNG (ud m H) (ud m H1) ∧ PKS (ud m H) (ud m H1)) ∧ (RDX (ud m H1) m od Y es P f fb (pd f 0 P) Gr NN us S z p nf nm tm bs lv lc oid nw wa wn wi wk nb bo cl al ro ∧ GRB (ud m H1) (pd f 0 P) (NN - fb) ((pd f 0 P + 63) / 64) ro (fun r => pzz ro r (pd f 0 P)) me) ∧ (∃ hh, LPQ (ud m H1) (GOS Y KU Xt f P od) (SHH 15 (EVS Y KU f P od) Qw ((SPD Y (GOS Y KU Xt f P od) (EVS Y KU f P od) (EGS (GOS Y KU Xt f P od) kN (fun f t => FS f t = true) (EVS Y KU f P od)) kN (fun f t => FS f t = true) KU f P od sa sN si) sp)) (SHT 15 (EVS Y KU f P od) (EGS (GOS Y KU Xt f P od) kN (fun f t => FS f t = true) (EVS Y KU f P od)) Qg) st ro (fun _ => st) (fun _ => 0) (fun _ => 0) (pd f 0 P) (NN - fb) ((pd f 0 P + 63) / 64) 161 0 g0 1 hh) ∧ ((ud m H1).2.1 158 14 = 4 ∧ (ud m H1).2.1 158 10 = nI 1 ∧ (ud m H1).2.1 158 21 = -1) ∧ ((ud m H1).2.2.1 158 8).2 0 = nI st) := by
  have hb := crd_aim (oo := 15) (Qw := Qw) hU hsp hns hk7 hgl (fun y => absurd y (by decide))
  obtain ⟨q, L, hL, hwL, hlk, -⟩ := hU.1.2.2.1.of (i := sp) (by omega) hns hk7
  have hGb := hU.1.1.2.1
  have hnum := RDX.nums hU.1.1.1
  have hTw := hU.tw.1
  have hTb := hU.tw.2
  have hstT := hst.1
  refine (pr_pathL15 (d := d + 16) (C := C) (G := (GOS Y KU Xt f P od)) (T := pd f 0 P) (R := NN - fb) (wn := ((pd f 0 P + 63) / 64)) (rx := ro) (mb := (fun r => pzz ro r (pd f 0 P))) (me := me) (N := NN) (fb := fb) h rfl hU.1.1.2.2.2.2.2.2.2 (by omega) h171 hlb hou hGb.1.1.1 (by omega) hl00 hl10 hlk hwL (by omega) hstT (by omega) (fun y => hno ((hb st (by omega)).1.mp y)) hGb hnum.1 hnum.2.1 hnum.2.2 rfl (fun s hs y => y.elim (fun y => ?_) (fun y => ((hb s hs).1.mp y).1.1))).imp (fun H1 y => ?_)
  · have z := (hb s hs).2.mp y
    unfold SHH at z
    rw [if_neg (by decide), if_neg (by decide), if_neg (by decide), if_neg (by decide)] at z; exact z.1
  · obtain ⟨u1, r1, W, ⟨q1, gk, ⟨e48, e62⟩, haw⟩, z1, nk, hh, hq⟩ := y
    have qW : uq FRNG (ud m H) (upI (TRB W st) 158 14 4) := ((((q1.mono (G := FRNG) rfl).A rfl).I rfl).I rfl).I rfl
    have pkW : PKS (ud m H) (upI (TRB W st) 158 14 4) := PKS.g2 (V := upI (TRB W st) 158 14 4) gk e48
    have pk1 : PKS (upI (TRB W st) 158 14 4) (ud m H1) := PKS.of_eq (z1.2.2.2.2.2 rfl) (z1.l 148 rfl)
    have qF : uq FRLG (ud m H) (ud m H1) := (((((q1.mono (G := FRLG) rfl).A rfl).I rfl).I rfl).I rfl).trans (z1.mono rfl)
    have eT : (fun t => t < pd f 0 P ∧ bts (lgf W 161 1) t = true) = (SHH 15 (EVS Y KU f P od) Qw ((SPD Y (GOS Y KU Xt f P od) (EVS Y KU f P od) (EGS (GOS Y KU Xt f P od) kN (fun f t => FS f t = true) (EVS Y KU f P od)) kN (fun f t => FS f t = true) KU f P od sa sN si) sp)) := funext fun t => propext ⟨fun y => (hb t (by have := y.1; omega)).2.mp (by have w := y.2; unfold bts at w; rw [(haw (t / 64) (by have := y.1; omega)).2] at w; exact w), fun y => by
      have ht : t < pd f 0 P := by unfold SHH at y; rw [if_neg (by decide), if_neg (by decide), if_neg (by decide), if_neg (by decide)] at y; exact y.1
      exact ⟨ht, by unfold bts; rw [(haw (t / 64) (by omega)).2]; exact (hb t (by omega)).2.mpr y⟩⟩
    have eO : (fun t => t < pd f 0 P ∧ bts (lgf W 161 0) t = true) = (SHT 15 (EVS Y KU f P od) (EGS (GOS Y KU Xt f P od) kN (fun f t => FS f t = true) (EVS Y KU f P od)) Qg) := funext fun t => propext ⟨fun y => (hb t (by have := y.1; omega)).1.mp (by have w := y.2; unfold bts at w; rw [(haw (t / 64) (by have := y.1; omega)).1] at w; exact w), fun y => by
      have ht : t < pd f 0 P := y.1.1
      exact ⟨ht, by unfold bts; rw [(haw (t / 64) (by omega)).1]; exact (hb t (by omega)).1.mpr y⟩⟩
    rw [eT, eO] at hq
    refine ⟨⟨u1, r1⟩, ⟨qW.trans (z1.mono rfl), pkW.trans pk1⟩, ⟨RDX.keep4 hU.1.1.1 qF rfl rfl rfl (pkW.trans pk1).1, hGb.keep qF rfl ((NK.of_eq (V := upI (TRB W st) 158 14 4) (q1.a 147 10 rfl)).trans nk)⟩, ⟨hh, hq⟩, ⟨(z1.i 158 14 rfl).trans rfl, (z1.i 158 10 rfl).trans rfl, (z1.i 158 21 rfl).trans rfl⟩, ?_⟩
    rw [z1.a 158 8 rfl]
    rfl
/-- a path is led -/
theorem crd_led28 (h : um m H) (hU : CRI (ud m H) m Y es P f od KU Xt ns sa sN si fb NN us S z p nf nm tm bs lv lc oid nw wa wn wi wk nb bo cl al ro Gr me kN FS L4 L8) (hsp : sp < ns) (hns : ns ≤ 2147483648) (h171 : ((ud m H).1 17).2 sp 1 = nI (lst + 1)) (hlb : lst < 2147483646) (hou : ((ud m H).1 0).2 lst 0 = nI 28) (hk7 : ((ud m H).2.2.1 158 7).2 (sp % 64) = nI sp) (hl00 : LSN (ud m H) 161 0 g0 256) (hl10 : LSN (ud m H) 161 1 g1 256) (hgl : ∀ s, s < 64 * ((pd f 0 P + 63) / 64) → (bts (lgf (ud m H) 161 0) s = true ↔ (EVS Y KU f P od) s ∧ Qg s)) (hwy : ∀ s, s < 64 * ((pd f 0 P + 63) / 64) → (bts (lgf (ud m H) 161 1) s = true ↔ (EVS Y KU f P od) s ∧ Qw s)) (hst : (EVS Y KU f P od) st) (hno : ¬ (SHT 28 (EVS Y KU f P od) (EGS (GOS Y KU Xt f P od) kN (fun f t => FS f t = true) (EVS Y KU f P od)) Qg) st) : mu_TV (mu_D (d + 21)) 368 [.inr (.inr (some 158)), .inl (nI sp), .inl (nI st)] H (fun H1 => (um m H1 ∧ ur m C H H1) ∧ (uq FRNG (ud m H) (ud m H1) ∧ PKS (ud m H) (ud m H1)) ∧ (RDX (ud m H1) m od Y es P f fb (pd f 0 P) Gr NN us S z p nf nm tm bs lv lc oid nw wa wn wi wk nb bo cl al ro ∧ GRB (ud m H1) (pd f 0 P) (NN - fb) ((pd f 0 P + 63) / 64) ro (fun r => pzz ro r (pd f 0 P)) me) ∧ (∃ hh, LPQ (ud m H1) (GOS Y KU Xt f P od) (SHH 28 (EVS Y KU f P od) Qw ((SPD Y (GOS Y KU Xt f P od) (EVS Y KU f P od) (EGS (GOS Y KU Xt f P od) kN (fun f t => FS f t = true) (EVS Y KU f P od)) kN (fun f t => FS f t = true) KU f P od sa sN si) sp)) (SHT 28 (EVS Y KU f P od) (EGS (GOS Y KU Xt f P od) kN (fun f t => FS f t = true) (EVS Y KU f P od)) Qg) st ro (fun _ => st) (fun _ => 0) (fun _ => 0) (pd f 0 P) (NN - fb) ((pd f 0 P + 63) / 64) 161 0 g0 1 hh) ∧ ((ud m H1).2.1 158 14 = 4 ∧ (ud m H1).2.1 158 10 = nI 1 ∧ (ud m H1).2.1 158 21 = -1) ∧ ((ud m H1).2.2.1 158 8).2 0 = nI st) := by
  have hb := crd_aim (oo := 28) (Qw := Qw) hU hsp hns hk7 hgl (fun _ => hwy)
  obtain ⟨q, L, hL, hwL, hlk, -⟩ := hU.1.2.2.1.of (i := sp) (by omega) hns hk7
  have hGb := hU.1.1.2.1
  have hnum := RDX.nums hU.1.1.1
  have hTw := hU.tw.1
  have hTb := hU.tw.2
  have hstT := hst.1
  refine (pr_pathL28 (d := d + 16) (C := C) (G := (GOS Y KU Xt f P od)) (T := pd f 0 P) (R := NN - fb) (wn := ((pd f 0 P + 63) / 64)) (rx := ro) (mb := (fun r => pzz ro r (pd f 0 P))) (me := me) (N := NN) (fb := fb) h rfl hU.1.1.2.2.2.2.2.2.2 (by omega) h171 hlb hou hGb.1.1.1 (by omega) hl00 hl10 hlk hwL (by omega) hstT (by omega) (fun y => hno ((hb st (by omega)).1.mp y)) hGb hnum.1 hnum.2.1 hnum.2.2 rfl (fun s hs y => y.elim (fun y => ?_) (fun y => ((hb s hs).1.mp y).1.1))).imp (fun H1 y => ?_)
  · have z := (hb s hs).2.mp y
    unfold SHH at z
    rw [if_neg (by decide), if_neg (by decide), if_neg (by decide), if_pos (by decide)] at z; exact z.1.1
  · obtain ⟨u1, r1, W, ⟨q1, gk, ⟨e48, e62⟩, haw⟩, z1, nk, hh, hq⟩ := y
    have qW : uq FRNG (ud m H) (upI (TRB W st) 158 14 4) := ((((q1.mono (G := FRNG) rfl).A rfl).I rfl).I rfl).I rfl
    have pkW : PKS (ud m H) (upI (TRB W st) 158 14 4) := PKS.g2 (V := upI (TRB W st) 158 14 4) gk e48
    have pk1 : PKS (upI (TRB W st) 158 14 4) (ud m H1) := PKS.of_eq (z1.2.2.2.2.2 rfl) (z1.l 148 rfl)
    have qF : uq FRLG (ud m H) (ud m H1) := (((((q1.mono (G := FRLG) rfl).A rfl).I rfl).I rfl).I rfl).trans (z1.mono rfl)
    have eT : (fun t => t < pd f 0 P ∧ bts (lgf W 161 1) t = true) = (SHH 28 (EVS Y KU f P od) Qw ((SPD Y (GOS Y KU Xt f P od) (EVS Y KU f P od) (EGS (GOS Y KU Xt f P od) kN (fun f t => FS f t = true) (EVS Y KU f P od)) kN (fun f t => FS f t = true) KU f P od sa sN si) sp)) := funext fun t => propext ⟨fun y => (hb t (by have := y.1; omega)).2.mp (by have w := y.2; unfold bts at w; rw [(haw (t / 64) (by have := y.1; omega)).2] at w; exact w), fun y => by
      have ht : t < pd f 0 P := by unfold SHH at y; rw [if_neg (by decide), if_neg (by decide), if_neg (by decide), if_pos (by decide)] at y; exact y.1.1
      exact ⟨ht, by unfold bts; rw [(haw (t / 64) (by omega)).2]; exact (hb t (by omega)).2.mpr y⟩⟩
    have eO : (fun t => t < pd f 0 P ∧ bts (lgf W 161 0) t = true) = (SHT 28 (EVS Y KU f P od) (EGS (GOS Y KU Xt f P od) kN (fun f t => FS f t = true) (EVS Y KU f P od)) Qg) := funext fun t => propext ⟨fun y => (hb t (by have := y.1; omega)).1.mp (by have w := y.2; unfold bts at w; rw [(haw (t / 64) (by have := y.1; omega)).1] at w; exact w), fun y => by
      have ht : t < pd f 0 P := y.1.1
      exact ⟨ht, by unfold bts; rw [(haw (t / 64) (by omega)).1]; exact (hb t (by omega)).1.mpr y⟩⟩
    rw [eT, eO] at hq
    refine ⟨⟨u1, r1⟩, ⟨qW.trans (z1.mono rfl), pkW.trans pk1⟩, ⟨RDX.keep4 hU.1.1.1 qF rfl rfl rfl (pkW.trans pk1).1, hGb.keep qF rfl ((NK.of_eq (V := upI (TRB W st) 158 14 4) (q1.a 147 10 rfl)).trans nk)⟩, ⟨hh, hq⟩, ⟨(z1.i 158 14 rfl).trans rfl, (z1.i 158 10 rfl).trans rfl, (z1.i 158 21 rfl).trans rfl⟩, ?_⟩
    rw [z1.a 158 8 rfl]
    rfl
/-- the path is there at once -/
theorem crd_once11 (h : um m H) (hU : CRI (ud m H) m Y es P f od KU Xt ns sa sN si fb NN us S z p nf nm tm bs lv lc oid nw wa wn wi wk nb bo cl al ro Gr me kN FS L4 L8) (hsp : sp < ns) (hns : ns ≤ 2147483648) (h171 : ((ud m H).1 17).2 sp 1 = nI (lst + 1)) (hlb : lst < 2147483646) (hou : ((ud m H).1 0).2 lst 0 = nI 11) (hk7 : ((ud m H).2.2.1 158 7).2 (sp % 64) = nI sp) (hl00 : LSN (ud m H) 161 0 g0 256) (hl10 : LSN (ud m H) 161 1 g1 256) (hgl : ∀ s, s < 64 * ((pd f 0 P + 63) / 64) → (bts (lgf (ud m H) 161 0) s = true ↔ (EVS Y KU f P od) s ∧ Qg s)) (hst : (EVS Y KU f P od) st) (hin : (SHT 11 (EVS Y KU f P od) (EGS (GOS Y KU Xt f P od) kN (fun f t => FS f t = true) (EVS Y KU f P od)) Qg) st) : mu_TV (mu_D (d + 21)) 368 [.inr (.inr (some 158)), .inl (nI sp), .inl (nI st)] H (fun H1 => (um m H1 ∧ ur m C H H1) ∧ (uq FRNG (ud m H) (ud m H1) ∧ PKS (ud m H) (ud m H1)) ∧ CRI (ud m H1) m Y es P f od KU Xt ns sa sN si fb NN us S z p nf nm tm bs lv lc oid nw wa wn wi wk nb bo cl al ro Gr me kN FS L4 L8 ∧ TOLD (ud m H1) 1 (fun _ => st) none) := by
  have hb := crd_aim (oo := 11) (Qw := fun _ => True) hU hsp hns hk7 hgl (fun y => absurd y (by decide))
  obtain ⟨q, L, hL, hwL, hlk, -⟩ := hU.1.2.2.1.of (i := sp) (by omega) hns hk7
  have hGb := hU.1.1.2.1
  have hTw := hU.tw.1
  have hTb := hU.tw.2
  have hstT := hst.1
  refine (pr_pathH11 (d := d + 16) (C := C) (T := pd f 0 P) (wn := ((pd f 0 P + 63) / 64)) h rfl hU.1.1.2.2.2.2.2.2.2 (by omega) h171 hlb hou hGb.1.1.1 (by omega) hl00 hl10 hlk hwL (by omega) hstT (by omega) ((hb st (by omega)).1.mpr hin)).imp (fun H1 y => ?_)
  obtain ⟨u1, r1, W, ⟨q1, gk, ⟨e48, e62⟩, haw⟩, e1⟩ := y
  have qW : uq FRNG (ud m H) (ud m H1) := by rw [e1]; exact (((q1.mono (G := FRNG) rfl).A rfl).I rfl).I rfl
  have qF : uq FRLG (ud m H) (ud m H1) := by rw [e1]; exact (((q1.mono (G := FRLG) rfl).A rfl).I rfl).I rfl
  have pkW : PKS (ud m H) (ud m H1) := by rw [e1]; exact PKS.g2 (V := TRB W st) gk e48
  refine ⟨⟨u1, r1⟩, ⟨qW, pkW⟩, hU.keepP qW pkW (RDX.keep4 hU.1.1.1 qF rfl rfl rfl pkW.1) (hGb.keep qF rfl (NK.of_eq (by rw [e1]; exact q1.a 147 10 rfl))) (by rw [e1]; exact (q1.i 147 15 rfl).trans hU.1.1.2.2.2.2.1.2) (by rw [e1]; exact (q1.i 158 14 rfl).trans hU.1.2.1) rfl rfl (fun _ => rfl) (fun _ => rfl) rfl rfl rfl rfl rfl rfl rfl rfl rfl rfl, ⟨⟨by rw [e1]; rfl, by decide, by decide⟩, by rw [e1]; rfl, fun j hj _ => ?_⟩⟩
  have : j = 0 := by omega
  subst this
  rw [e1]
  rfl
/-- the path is there at once -/
theorem crd_once15 (h : um m H) (hU : CRI (ud m H) m Y es P f od KU Xt ns sa sN si fb NN us S z p nf nm tm bs lv lc oid nw wa wn wi wk nb bo cl al ro Gr me kN FS L4 L8) (hsp : sp < ns) (hns : ns ≤ 2147483648) (h171 : ((ud m H).1 17).2 sp 1 = nI (lst + 1)) (hlb : lst < 2147483646) (hou : ((ud m H).1 0).2 lst 0 = nI 15) (hk7 : ((ud m H).2.2.1 158 7).2 (sp % 64) = nI sp) (hl00 : LSN (ud m H) 161 0 g0 256) (hl10 : LSN (ud m H) 161 1 g1 256) (hgl : ∀ s, s < 64 * ((pd f 0 P + 63) / 64) → (bts (lgf (ud m H) 161 0) s = true ↔ (EVS Y KU f P od) s ∧ Qg s)) (hst : (EVS Y KU f P od) st) (hin : (SHT 15 (EVS Y KU f P od) (EGS (GOS Y KU Xt f P od) kN (fun f t => FS f t = true) (EVS Y KU f P od)) Qg) st) : mu_TV (mu_D (d + 21)) 368 [.inr (.inr (some 158)), .inl (nI sp), .inl (nI st)] H (fun H1 => (um m H1 ∧ ur m C H H1) ∧ (uq FRNG (ud m H) (ud m H1) ∧ PKS (ud m H) (ud m H1)) ∧ CRI (ud m H1) m Y es P f od KU Xt ns sa sN si fb NN us S z p nf nm tm bs lv lc oid nw wa wn wi wk nb bo cl al ro Gr me kN FS L4 L8 ∧ TOLD (ud m H1) 1 (fun _ => st) none) := by
  have hb := crd_aim (oo := 15) (Qw := fun _ => True) hU hsp hns hk7 hgl (fun y => absurd y (by decide))
  obtain ⟨q, L, hL, hwL, hlk, -⟩ := hU.1.2.2.1.of (i := sp) (by omega) hns hk7
  have hGb := hU.1.1.2.1
  have hTw := hU.tw.1
  have hTb := hU.tw.2
  have hstT := hst.1
  refine (pr_pathH15 (d := d + 16) (C := C) (T := pd f 0 P) (wn := ((pd f 0 P + 63) / 64)) h rfl hU.1.1.2.2.2.2.2.2.2 (by omega) h171 hlb hou hGb.1.1.1 (by omega) hl00 hl10 hlk hwL (by omega) hstT (by omega) ((hb st (by omega)).1.mpr hin)).imp (fun H1 y => ?_)
  obtain ⟨u1, r1, W, ⟨q1, gk, ⟨e48, e62⟩, haw⟩, e1⟩ := y
  have qW : uq FRNG (ud m H) (ud m H1) := by rw [e1]; exact (((q1.mono (G := FRNG) rfl).A rfl).I rfl).I rfl
  have qF : uq FRLG (ud m H) (ud m H1) := by rw [e1]; exact (((q1.mono (G := FRLG) rfl).A rfl).I rfl).I rfl
  have pkW : PKS (ud m H) (ud m H1) := by rw [e1]; exact PKS.g2 (V := TRB W st) gk e48
  refine ⟨⟨u1, r1⟩, ⟨qW, pkW⟩, hU.keepP qW pkW (RDX.keep4 hU.1.1.1 qF rfl rfl rfl pkW.1) (hGb.keep qF rfl (NK.of_eq (by rw [e1]; exact q1.a 147 10 rfl))) (by rw [e1]; exact (q1.i 147 15 rfl).trans hU.1.1.2.2.2.2.1.2) (by rw [e1]; exact (q1.i 158 14 rfl).trans hU.1.2.1) rfl rfl (fun _ => rfl) (fun _ => rfl) rfl rfl rfl rfl rfl rfl rfl rfl rfl rfl, ⟨⟨by rw [e1]; rfl, by decide, by decide⟩, by rw [e1]; rfl, fun j hj _ => ?_⟩⟩
  have : j = 0 := by omega
  subst this
  rw [e1]
  rfl
/-- the path is there at once -/
theorem crd_once28 (h : um m H) (hU : CRI (ud m H) m Y es P f od KU Xt ns sa sN si fb NN us S z p nf nm tm bs lv lc oid nw wa wn wi wk nb bo cl al ro Gr me kN FS L4 L8) (hsp : sp < ns) (hns : ns ≤ 2147483648) (h171 : ((ud m H).1 17).2 sp 1 = nI (lst + 1)) (hlb : lst < 2147483646) (hou : ((ud m H).1 0).2 lst 0 = nI 28) (hk7 : ((ud m H).2.2.1 158 7).2 (sp % 64) = nI sp) (hl00 : LSN (ud m H) 161 0 g0 256) (hl10 : LSN (ud m H) 161 1 g1 256) (hgl : ∀ s, s < 64 * ((pd f 0 P + 63) / 64) → (bts (lgf (ud m H) 161 0) s = true ↔ (EVS Y KU f P od) s ∧ Qg s)) (hwy : ∀ s, s < 64 * ((pd f 0 P + 63) / 64) → (bts (lgf (ud m H) 161 1) s = true ↔ (EVS Y KU f P od) s ∧ Qw s)) (hst : (EVS Y KU f P od) st) (hin : (SHT 28 (EVS Y KU f P od) (EGS (GOS Y KU Xt f P od) kN (fun f t => FS f t = true) (EVS Y KU f P od)) Qg) st) : mu_TV (mu_D (d + 21)) 368 [.inr (.inr (some 158)), .inl (nI sp), .inl (nI st)] H (fun H1 => (um m H1 ∧ ur m C H H1) ∧ (uq FRNG (ud m H) (ud m H1) ∧ PKS (ud m H) (ud m H1)) ∧ CRI (ud m H1) m Y es P f od KU Xt ns sa sN si fb NN us S z p nf nm tm bs lv lc oid nw wa wn wi wk nb bo cl al ro Gr me kN FS L4 L8 ∧ TOLD (ud m H1) 1 (fun _ => st) none) := by
  have hb := crd_aim (oo := 28) (Qw := Qw) hU hsp hns hk7 hgl (fun _ => hwy)
  obtain ⟨q, L, hL, hwL, hlk, -⟩ := hU.1.2.2.1.of (i := sp) (by omega) hns hk7
  have hGb := hU.1.1.2.1
  have hTw := hU.tw.1
  have hTb := hU.tw.2
  have hstT := hst.1
  refine (pr_pathH28 (d := d + 16) (C := C) (T := pd f 0 P) (wn := ((pd f 0 P + 63) / 64)) h rfl hU.1.1.2.2.2.2.2.2.2 (by omega) h171 hlb hou hGb.1.1.1 (by omega) hl00 hl10 hlk hwL (by omega) hstT (by omega) ((hb st (by omega)).1.mpr hin)).imp (fun H1 y => ?_)
  obtain ⟨u1, r1, W, ⟨q1, gk, ⟨e48, e62⟩, haw⟩, e1⟩ := y
  have qW : uq FRNG (ud m H) (ud m H1) := by rw [e1]; exact (((q1.mono (G := FRNG) rfl).A rfl).I rfl).I rfl
  have qF : uq FRLG (ud m H) (ud m H1) := by rw [e1]; exact (((q1.mono (G := FRLG) rfl).A rfl).I rfl).I rfl
  have pkW : PKS (ud m H) (ud m H1) := by rw [e1]; exact PKS.g2 (V := TRB W st) gk e48
  refine ⟨⟨u1, r1⟩, ⟨qW, pkW⟩, hU.keepP qW pkW (RDX.keep4 hU.1.1.1 qF rfl rfl rfl pkW.1) (hGb.keep qF rfl (NK.of_eq (by rw [e1]; exact q1.a 147 10 rfl))) (by rw [e1]; exact (q1.i 147 15 rfl).trans hU.1.1.2.2.2.2.1.2) (by rw [e1]; exact (q1.i 158 14 rfl).trans hU.1.2.1) rfl rfl (fun _ => rfl) (fun _ => rfl) rfl rfl rfl rfl rfl rfl rfl rfl rfl rfl, ⟨⟨by rw [e1]; rfl, by decide, by decide⟩, by rw [e1]; rfl, fun j hj _ => ?_⟩⟩
  have : j = 0 := by omega
  subst this
  rw [e1]
  rfl
/-- the path is led to its end -/
theorem crd_ledD {Th To : Nat → Prop} (hU : CRI U m Y es P f od KU Xt ns sa sN si fb NN us S z p nf nm tm bs lv lc oid nw wa wn wi wk nb bo cl al ro Gr me kN FS L4 L8) (h : um m H) (hC21 : 2 * (((Y 13).1 + 2) * 4) + 4 ≤ C 21) (hC21b : C 21 ≤ 8388608) (hq : uq FRNG U (ud m H) ∧ PKS U (ud m H)) (hR : RDX (ud m H) m od Y es P f fb (pd f 0 P) Gr NN us S z p nf nm tm bs lv lc oid nw wa wn wi wk nb bo cl al ro ∧ GRB (ud m H) (pd f 0 P) (NN - fb) ((pd f 0 P + 63) / 64) ro (fun r => pzz ro r (pd f 0 P)) me) (hL : ∃ hh, LPQ (ud m H) (GOS Y KU Xt f P od) Th To st ro (fun _ => st) (fun _ => 0) (fun _ => 0) (pd f 0 P) (NN - fb) ((pd f 0 P + 63) / 64) 161 0 g0 1 hh) (h4 : (ud m H).2.1 158 14 = 4 ∧ (ud m H).2.1 158 10 = nI 1 ∧ (ud m H).2.1 158 21 = -1) (h0 : ((ud m H).2.2.1 158 8).2 0 = nI st) (hex : ∃ n W, PTH (GOS Y KU Xt f P od) Th To st n W) : mu_TV (mu_D (d + 21)) 376 [.inr (.inr (some 0))] H (fun H1 => (um m H1 ∧ ur m C H H1) ∧ (uq FRNG U (ud m H1) ∧ PKS U (ud m H1)) ∧ CRI (ud m H1) m Y es P f od KU Xt ns sa sN si fb NN us S z p nf nm tm bs lv lc oid nw wa wn wi wk nb bo cl al ro Gr me kN FS L4 L8 ∧ ∃ n W, LEA (GOS Y KU Xt f P od) Th To st n W ∧ TOLD (ud m H1) (n + 1) W none) := by
  obtain ⟨hh, hL⟩ := hL
  have hTb := hU.tw.2
  refine (pv_driveL (d := d) (C := C) (G := (GOS Y KU Xt f P od)) (R := NN - fb) (wd := ((pd f 0 P + 63) / 64)) rfl hU.2.1.1 hC21 hC21b hU.2.1.2.2.2 hU.2.1.2.2.1 (fun s t y => y.2.1.1) hU.2.1.2.1 hU.tw.1 h hR.1 hR.2 hL h4.1 ((hq.1.r 158 22 rfl).trans hU.1.1.2.2.2.2.1.1) h4.2.1 h0 hex).imp (fun H1 y => ?_)
  obtain ⟨u1, r1, n, W, V, ⟨hLE, hnT⟩, ⟨v1, v2, v3, v4⟩, ⟨v5, v6, v7⟩, V2, y1, y2, e1⟩ := y
  have qa : uq FRNG (ud m H) V := v1.mono rfl
  have qb : uq FRNG V (ud m H1) := by rw [e1]; exact ((y1.mono (G := FRNG) rfl).I rfl).I rfl
  have qbL : uq FRLG V (ud m H1) := by rw [e1]; exact ((y1.mono (G := FRLG) rfl).I rfl).I rfl
  have pa : PKS (ud m H) V := PKS.of_eq v2 v3
  have pb : PKS V (ud m H1) := by rw [e1]; exact PKS.of_eq (V := upI (upI V2 158 10 (nI (1 + n))) 158 14 0) (y1.2.2.2.2.2 rfl) (y1.l 148 rfl)
  have qt : uq FRNG U (ud m H1) := (hq.1.trans qa).trans qb
  have pt : PKS U (ud m H1) := (hq.2.trans pa).trans pb
  refine ⟨⟨u1, r1⟩, ⟨qt, pt⟩, hU.keepP qt pt (v5.keep4 qbL rfl rfl rfl pb.1) (v6.keep qbL rfl (NK.of_eq (by rw [e1]; exact y1.a 147 10 rfl))) (by rw [e1]; exact (y1.i 147 15 rfl).trans v7) (by rw [e1]; rfl) rfl rfl (fun _ => rfl) (fun _ => rfl) rfl rfl rfl rfl rfl rfl rfl rfl rfl rfl, n, W, hLE, ⟨by rw [e1, Nat.add_comm n 1]; rfl, by omega, by omega⟩, ?_, fun j hj hj2 => ?_⟩
  · rw [e1]
    exact (y1.i 158 21 rfl).trans ((v1.i 158 21 rfl).trans h4.2.2)
  · rw [e1]
    show (V2.2.2.1 158 8).2 j = nI (W j)
    rw [y2 j]
    by_cases c : 1 ≤ j
    · rw [if_pos ⟨c, by omega, hj2⟩, show j - 1 + 1 = j by omega]
    · rw [if_neg (by omega), show j = 0 by omega, v1.a 158 8 rfl, h0, hLE.1.2.1]
end ShowPath
