/-! THE STATES OF A SPEC: drive behind ask -/
def FSW : Uf := ⟨FSK.t, FSK.i ++ [(158, 15), (158, 17), (158, 18), (158, 19)], (158, 7) :: FSK.a, FSK.n, FSK.l, true⟩
/-- what stays while SPECS are asked for -/
def KPW (U V : Ud) : Prop := (∀ j, in1 FSW.t j = false → V.1 j = U.1 j) ∧ (∀ P j, in2 FSW.i P j = false → V.2.1 P j = U.2.1 P j) ∧ (∀ P J, in2 FSW.a P J = false → V.2.2.1 P J = U.2.2.1 P J) ∧ (∀ P J, ¬ P = 161 → ¬ P = 163 → in2 FSW.n P J = false → (V.2.2.1 P J).1 = (U.2.2.1 P J).1 ∧ V.2.2.2.1 P J = U.2.2.2.1 P J) ∧ (∀ p, in1 FSW.l p = false → V.2.2.2.2.1 p = U.2.2.2.2.1 p) ∧ V.2.2.2.2.2 114 = U.2.2.2.2.2 114
def kpg (F : Uf) : Bool := F.t.all (fun j => in1 FSW.t j) && (F.i.all (fun x => in2 FSW.i x.1 x.2) && (F.a.all (fun x => in2 FSW.a x.1 x.2) && (F.n.all (fun x => Nat.beq x.1 161 || (Nat.beq x.1 163 || in2 FSW.n x.1 x.2)) && F.l.all (fun j => in1 FSW.l j))))
section AskedDrive
variable {H H0 : mu_H} {U U0 V V' V0 V3 X K0 : Ud} {m d P R wd nk N a i0 into n sc jl jr sj qs i N0 fb NN us nf nw nb : Nat} {C : Nat → Nat} {Y : Ts} {f od bs lv lc wa wn wi cl ro z mb me : Nat → Nat} {es rs nm tm : Nat → Int32} {wk p : Nat → Bool} {S FS : Nat → Nat → Bool} {bo oid : Nat → Nat → Nat} {Gr G : Nat → Nat → Prop} {al E Fr : Nat → Prop} {js : Nat → Option Nat} {F : Uf} {L4 L8 : Nat → Int64} {Q : Nat → Nat → Nat → Prop} {Φ : mu_R → Prop}
variable {W : Ud} {T L k q sp ns c : Nat} {D : Nat → Nat → Prop} {KW : Ud} {sa sN si : Nat → Nat} {PV : mu_H → Prop} {cst : Nat → Nat}
theorem KPW.refl (U : Ud) : KPW U U := ⟨fun _ _ => rfl, fun _ _ _ => rfl, fun _ _ _ => rfl, fun _ _ _ _ _ => ⟨rfl, rfl⟩, fun _ _ => rfl, rfl⟩
theorem KPW.trans (h : KPW U V) (h' : KPW V W) : KPW U W := ⟨fun j hj => (h'.1 j hj).trans (h.1 j hj), fun A j hj => (h'.2.1 A j hj).trans (h.2.1 A j hj), fun A j hj => (h'.2.2.1 A j hj).trans (h.2.2.1 A j hj), fun A j h1 h2 hj => ⟨((h'.2.2.2.1 A j h1 h2 hj).1).trans (h.2.2.2.1 A j h1 h2 hj).1, ((h'.2.2.2.1 A j h1 h2 hj).2).trans (h.2.2.2.1 A j h1 h2 hj).2⟩, fun q hj => (h'.2.2.2.2.1 q hj).trans (h.2.2.2.2.1 q hj), h'.2.2.2.2.2.trans h.2.2.2.2.2⟩
theorem in2_sub2 {l r : List (Nat × Nat)} {A j : Nat} (h : l.all (fun x => Nat.beq x.1 161 || (Nat.beq x.1 163 || in2 r x.1 x.2)) = true) (hA : ¬ A = 161) (hB : ¬ A = 163) (hj : in2 r A j = false) : in2 l A j = false := by
  by_cases e : in2 l A j = true
  · obtain ⟨t, ht, hx⟩ := List.any_eq_true.mp e
    have := List.all_eq_true.mp h t ht
    rw [Bool.and_eq_true] at hx
    rw [Nat.eq_of_beq_eq_true hx.1, Nat.eq_of_beq_eq_true hx.2, hj, Bool.or_false, Bool.or_eq_true] at this
    rcases this with y | y
    · exact absurd (Nat.eq_of_beq_eq_true y) hA
    · exact absurd (Nat.eq_of_beq_eq_true y) hB
  · exact Bool.eq_false_iff.mpr e
theorem KPW.of_uq (hq : uq F U V) (hk : kpg F = true) (e : V.2.2.2.2.2 114 = U.2.2.2.2.2 114) : KPW U V := by
  unfold kpg at hk
  rw [Bool.and_eq_true, Bool.and_eq_true, Bool.and_eq_true, Bool.and_eq_true] at hk
  obtain ⟨s1, s2, s3, s4, s5⟩ := hk
  exact ⟨fun j hj => hq.1 j (in1_sub s1 hj), fun A j hj => hq.2.1 A j (in2_sub s2 hj), fun A j hj => hq.2.2.1 A j (in2_sub s3 hj), fun A j hA hB hj => hq.2.2.2.1 A j (in2_sub2 s4 hA hB hj), fun q hj => hq.2.2.2.2.1 q (in1_sub s5 hj), e⟩
theorem KEP.kpw (h : KEP U V) : KPW U V := ⟨fun j hj => h.1 j hj, fun A j hj => h.2.1 A j (in2_sub (r := FSW.i) rfl hj), fun A j hj => h.2.2.1 A j (in2_sub (r := FSW.a) rfl hj), fun A j hA _ hj => h.2.2.2.1 A j hA hj, fun q hj => h.2.2.2.2.1 q hj, h.2.2.2.2.2.1⟩
theorem upI_same {A j : Nat} {v : Int32} (h : U.2.1 A j = v) : upI U A j v = U := by
  have e : f2 U.2.1 A j v = U.2.1 := by
    funext x y
    unfold f2
    by_cases c : x = A ∧ y = j
    · rw [if_pos c, c.1, c.2, h]
    · rw [if_neg c]
  unfold upI
  rw [e]
/-- nothing is left to do -/
theorem dr_idle (h : um m H) (hi : i < 1073741824) (hwa : (ud m H).2.1 147 15 = -1) (htr : (ud m H).2.2.2.1 158 22 = none) (hta : (ud m H).2.1 158 14 = 0) (hΦ : ∀ H1, um m H1 → ur m C H H1 → ud m H1 = ud m H → Φ (.inl none, H1)) : mu_W (mu_D (d + 20)) mu_m376 (2, [(1, .inl (nI i)), (0, .inr (.inr (some 0)))], [], H) Φ := by
  refine dr_adv (d := d) (PV := fun _ => False) (PW := fun H1 => um m H1 ∧ ur m C H H1 ∧ ud m H1 = upI (ud m H) 158 14 0) h rfl hi hwa htr (by rw [hta]; decide) ((pr_adv0 (d := d + 14) (C := C) h rfl hta).imp (fun x H1 y => Or.inr ⟨y.1, y.2⟩)) (fun _ y => False.elim y) (fun H3 y => ?_)
  exact hΦ H3 y.1 y.2.1 (y.2.2.trans (upI_same hta))
theorem pv_drive0 (h : um m H) (hwa : (ud m H).2.1 147 15 = -1) (htr : (ud m H).2.2.2.1 158 22 = none) (hta : (ud m H).2.1 158 14 = 0) : mu_TV (mu_D (d + 21)) 376 [.inr (.inr (some 0))] H (fun H1 => um m H1 ∧ ur m C H H1 ∧ ud m H1 = ud m H) :=
  pv_driveW (fun Φ hΦ => dr_idle (C := C) h (by decide) hwa htr hta (fun H1 u1 r1 e1 => hΦ H1 ⟨u1, r1, e1⟩))
theorem sek_uq {x0 x1 x2 x3 x4 : Int32} : uq Fek U (upI (sekU U x0 x1 x2 x3) 158 15 x4) := by
  have h0 : uq Fek U (upT U (ac 26 U.1 0)) := ⟨fun j hj => if_neg (in1_ne (j := 26) rfl hj), fun _ _ _ => rfl, fun _ _ _ => rfl, fun _ _ _ => ⟨rfl, rfl⟩, fun _ _ => rfl, fun _ => rfl⟩
  unfold sekU
  exact ((((((((h0.I rfl).I rfl).I rfl).I rfl).I rfl).I rfl).I rfl).I rfl).I rfl
theorem sek_skw (hw : SKW U m (RDK m od Y es P f fb Gr NN us S z p nf nm tm bs lv lc oid nw wa wn wi wk nb bo cl al ro) (pd f 0 P) R wd ro mb me nk FS L4 L8 Y) (hq : uq Fek U V) : SKW V m (RXK V into m od Y es P f fb Gr NN us S z p nf nm tm bs lv lc oid nw wa wn wi wk nb bo cl al ro) (pd f 0 P) R wd ro mb me nk FS L4 L8 Y := by
  obtain ⟨w1, w2, w3, w4, ⟨w5, w6⟩, ⟨w7, w8⟩, w9, w10⟩ := hw
  have ep := hq.2.2.2.2.2 rfl
  exact ⟨⟨RDX.keep4 w1 hq rfl rfl rfl (by rw [ep]), KEP.refl _, fun _ _ => rfl⟩, w2.keep hq rfl (NK.of_eq (hq.a 147 10 rfl)), w3.eq (hq.i 99 19 rfl) (hq.a 113 3 rfl) (fun c => by rw [ep]), w4.keepq hq (fun _ => rfl) (fun _ => rfl) rfl, ⟨(hq.r 158 22 rfl).trans w5, (hq.i 147 15 rfl).trans w6⟩, ⟨(hq.l 124 rfl).trans w7, (hq.l 148 rfl).trans w8⟩, (hq.t 0 rfl).trans w9, (hq.r 99 0 rfl).trans w10⟩
/-- drive behind ask: the STATES of the SPEC are kept -/
theorem pv_driveS (hRN : R = NN - fb) (hmem : ∀ r, ¬ r = 0 → r < R → ∃ s, s < pd f 0 P ∧ ro s = r) (hST : ∀ r x, S (fb + r) x = true → x < pd f 0 P) (hG : ∀ s t, s < pd f 0 P → (G s t ↔ S (fb + ro s) t = true)) (hGE : ∀ s t, G s t → E t) (hTw : pd f 0 P ≤ 64 * wd) (hE : ∀ s, s < 64 * wd → (bts L4 s = true ↔ E s)) (hET : ∀ s, E s → s < pd f 0 P) (hF : ∀ s, s < pd f 0 P → (bts L8 s = true ↔ Fr s)) (hC21 : 2 * (((Y 13).1 + 2) * 4) + 4 ≤ C 21) (hC21b : C 21 ≤ 8388608) (hsp : sp < ns) (hns : ns ≤ 2147483648) (hy : (Y 17).2 sp 0 = nI (sa sp) ∧ (Y 17).2 sp 1 = nI (sa sp + sN sp) ∧ (Y 17).2 sp 2 = nI (si sp)) (hC : SKC Y es rs (sa sp) (sN sp) (si sp) 0) (hle : ∀ n, n < sN sp → plen (oc Y (sa sp + n)) (oa Y (sa sp + n)) = 0 → ¬ rs n = 9) (hroot : stk Y rs (sa sp) (sN sp) 0 = 1 ∨ stk Y rs (sa sp) (sN sp) 0 = 9) (hcst : ∀ n, n < sN sp → cst (n + 1) + wgt R (oc Y (sa sp + n)) ≤ cst n) (hc0 : cst 0 + 24 ≤ 1073741824) (hC26 : 4 * (sN sp + 2) + 2 ≤ C 26) (hC26b : C 26 ≤ 8388608) (h : um m H) (hU : (SKW U m (RDK m od Y es P f fb Gr NN us S z p nf nm tm bs lv lc oid nw wa wn wi wk nb bo cl al ro) (pd f 0 P) R wd ro mb me nk FS L4 L8 Y ∧ U.2.1 158 14 = 0 ∧ KPT U (pd f 0 P) wd ns E (SPD Y G E Fr nk (fun f t => FS f t = true) KW f P od sa sN si) ∧ U.1 15 = KW.1 15 ∧ U.2.2.1 99 8 = KW.2.2.1 99 8)) (e : ud m H = upI (sekU U ((U.1 17).2 sp 0) ((U.1 17).2 sp 1) ((U.1 17).2 sp 2) 0) 158 15 (nI sp)) : mu_TV (mu_D (d + 21)) 376 [.inr (.inr (some 0))] H (fun H1 => um m H1 ∧ ur m C H H1 ∧ (SKW (ud m H1) m (RDK m od Y es P f fb Gr NN us S z p nf nm tm bs lv lc oid nw wa wn wi wk nb bo cl al ro) (pd f 0 P) R wd ro mb me nk FS L4 L8 Y ∧ (ud m H1).2.1 158 14 = 0 ∧ KPT (ud m H1) (pd f 0 P) wd ns E (SPD Y G E Fr nk (fun f t => FS f t = true) KW f P od sa sN si) ∧ (ud m H1).1 15 = KW.1 15 ∧ (ud m H1).2.2.1 99 8 = KW.2.2.1 99 8) ∧ ((ud m H1).2.2.1 158 7).2 (sp % 64) = nI sp ∧ KPW U (ud m H1)) := by
  obtain ⟨hw, h14, hK, x15, x98⟩ := hU
  have hq0 : uq Fek U (ud m H) := by rw [e]; exact sek_uq
  have hw0 := sek_skw (into := 0) hw hq0
  have ep0 := hq0.2.2.2.2.2 rfl
  have hK0 : KPT (ud m H) (pd f 0 P) wd ns E (SPD Y G E Fr nk (fun f t => FS f t = true) KW f P od sa sN si) := hK.same (by rw [hq0.a 158 7 rfl]) (fun c => hq0.r 163 c rfl) (by rw [ep0])
  have hW0 : KPW U (ud m H) := KPW.of_uq hq0 rfl (by rw [ep0])
  have hjv : ∀ c, c < 3 → (U.1 17).2 sp c = (Y 17).2 sp c := fun c hc => (RDX.rsk hw.1).jv.2.2.2.2.2 sp c hc
  have hb := hC.bnd (Nat.zero_le _)
  have hQd : CTS Y G E Fr nk (fun f t => FS f t = true) (lvq Y KW f P od (si sp)) (sa sp) = CTS Y G E Fr nk (fun f t => FS f t = true) (lvq Y (ud m H) f P od (si sp)) (sa sp) := by
    rw [show lvq Y KW f P od (si sp) = lvq Y (ud m H) f P od (si sp) from funext fun s => lvq_eq (x15.symm.trans (hq0.t 15 rfl).symm) (x98.symm.trans (hq0.a 99 8 rfl).symm)]
  refine pv_driveW (fun Φ hΦ => ?_)
  refine dr_seekall (d := d) (C := C) (H0 := H) (K0 := ud m H) (a := sa sp) (N := sN sp) (i0 := si sp) (into := 0) (L := 1073741824) (cst := cst) (PE := fun H1 => (SKW (ud m H1) m (RDK m od Y es P f fb Gr NN us S z p nf nm tm bs lv lc oid nw wa wn wi wk nb bo cl al ro) (pd f 0 P) R wd ro mb me nk FS L4 L8 Y ∧ (ud m H1).2.1 158 14 = 0 ∧ KPT (ud m H1) (pd f 0 P) wd ns E (SPD Y G E Fr nk (fun f t => FS f t = true) KW f P od sa sN si) ∧ (ud m H1).1 15 = KW.1 15 ∧ (ud m H1).2.2.1 99 8 = KW.2.2.1 99 8) ∧ ((ud m H1).2.2.1 158 7).2 (sp % 64) = nI sp ∧ KPW U (ud m H1)) hRN hmem hST hG hGE hC hTw hE hET hF hC21 hC21b hC26 hC26b hQd hle hroot hcst (Nat.le_refl _) (fun Hx ux rx hwx e16 e17 e19 hset Ψ hΨ => ?_) (fun i' H1 hi u1 r1 y => ?_) (8 * sN sp + 4) 0 H ⟨h, ur.refl m C H, Or.inl ⟨0, fun _ => none, 0, ?_, hw0, ?_, ?_⟩⟩
  · obtain ⟨q, l, hset⟩ := hset
    obtain ⟨w1, w2, w3, w4, ⟨w5, w6⟩, ⟨w7, w8⟩, w9, w10⟩ := id hwx
    have hwd : wd ≤ 256 := by have := w2.1.2.1; have := w2.1.2.2; omega
    have x15' : (ud m Hx).2.1 158 15 = nI sp := (w1.2.1.2.1 158 15 rfl).trans (by rw [e]; rfl)
    refine sk_endK (d := d + 11) (C := C) (PV := fun H1 => uq F258ga (ud m Hx) (ud m H1) ∧ LSN (ud m H1) 161 0 q 256 ∧ GKP 161 0 (ud m Hx) (ud m H1) ∧ ∀ i, i < wd → lgf (ud m H1) 161 0 i = lgf (ud m Hx) 161 0 i &&& (ud m Hx).2.2.2.2.1 124 i) (PW := fun H1 => ∃ V2 : Ud, (uq F258ga (ud m Hx) V2 ∧ LSN V2 161 0 q 256 ∧ GKP 161 0 (ud m Hx) V2 ∧ ∀ i, i < wd → lgf V2 161 0 i = lgf (ud m Hx) 161 0 i &&& (ud m Hx).2.2.2.2.1 124 i) ∧ KPA V2 (ud m H1) wd (sp % 64) sp) (at0 := sa sp + (sN sp + 1)) (to0 := sa sp + sN sp) (jl := 0) (jr := q) (sj := sp) ux rfl e16 e17 (by omega) (by omega) e19 (by decide) l ((sp_commonG (d := d + 18) (C := C) ux rfl w2.1.1.1 hwd l).imp (fun H1 y => ⟨y.1, y.2.1, y.2.2, (y.2.2.1.i 158 15 rfl).trans x15'⟩)) (by omega) (fun H2 u2 y => ?_) (fun H2 H4 u2 r2 hPW u4 r4 d4 => ?_)
    · have hP2 : PLS (ud m H2) := w4.gk y.1 (fun _ => rfl) (fun _ => rfl) y.2.2.1.toQ
      exact (pr_keepall (d := d + 17) (C := C) (T := pd f 0 P) u2 rfl ((y.1.i 99 12 rfl).trans w2.1.1.1) ((y.1.i 99 11 rfl).trans w2.1.1.2) w2.1.2.1 w2.1.2.2 (by omega) y.2.1 hP2).imp (fun H3 z => ⟨z.1, z.2.1, ud m H2, y, z.2.2⟩)
    · obtain ⟨V2, ⟨y1, y2, y3, y4⟩, hA⟩ := hPW
      have hA : KPA V2 (ud m H4) wd (sp % 64) sp := by rw [d4]; exact hA.fin
      have hw2 : SKW V2 m (RXK (ud m H) 0 m od Y es P f fb Gr NN us S z p nf nm tm bs lv lc oid nw wa wn wi wk nb bo cl al ro) (pd f 0 P) R wd ro mb me nk FS L4 L8 Y := SKW.keep wrl_rxk hwx y1 rfl rfl rfl rfl rfl rfl rfl rfl rfl rfl rfl rfl rfl (fun _ => rfl) (fun _ => rfl) y3.toQ (by decide) (fun _ => Nat.zero_le _) (y3.1 148 (Or.inl rfl) (fun z => absurd z.1 (by decide)))
      have hk2 : KEP (ud m H) V2 := hw2.1.2.1
      have hW4 : KPW U (ud m H4) := hW0.trans (hk2.kpw.trans (KPW.of_uq hA.1 rfl (funext fun c => hA.2.2.1 114 c (fun z => absurd z.1 (by decide)))))
      refine hΨ H4 u4 (rx.trans r4) ⟨⟨hA.skw (Nat.mod_lt sp (by decide)) ⟨hw2.1.1, hw2.2⟩, by rw [d4]; rfl, hA.kpt (hk2.kpt hK0) hsp hTw (fun s s1 => ?_), (hW4.1 15 rfl).trans x15, (hW4.2.2.1 99 8 rfl).trans x98⟩, (hA.2.2.2.1 _).trans (if_pos rfl), hW4⟩
      unfold bts
      rw [y4 (s / 64) (by omega), btz_and, Bool.and_eq_true, w7]
      have hE1 := hE s (by omega)
      have c1 := fun (kE : E s) => hset s (hET s kE) kE
      unfold bts at hE1 c1
      rw [hE1]
      constructor
      · rintro ⟨k1, k2⟩
        exact ⟨k2, (c1 k2).mp k1⟩
      · rintro ⟨k1, k2⟩
        exact ⟨(c1 k1).mpr k2, k1⟩
  · obtain ⟨⟨v1, v2, v3⟩, v4⟩ := y
    refine dr_idle (C := C) u1 (by omega) v1.2.2.2.2.1.2 v1.2.2.2.2.1.1 v2 (fun H2 u2 r2 d2 => hΦ H2 ⟨u2, r1.trans r2, ?_⟩)
    rw [d2]
    exact ⟨⟨v1, v2, v3⟩, v4⟩
  · refine SKS.fresh (Nat.zero_le _) hC ⟨?_, ?_, fun k hk => absurd hk (Nat.not_lt_zero _)⟩ ⟨rfl, fun k j hk => absurd hk (Nat.not_lt_zero _), fun k j hk => absurd hk (Nat.not_lt_zero _), fun k j _ hk => absurd hk (Nat.not_lt_zero _), fun k k' j hk => absurd hk (Nat.not_lt_zero _)⟩ (fun k hk => absurd hk (Nat.not_lt_zero _)) (fun k j hk => absurd hk (Nat.not_lt_zero _))
    · rw [e, hjv 0 (by decide), hjv 1 (by decide), hjv 2 (by decide), hy.1, hy.2.1, hy.2.2]
      exact ⟨rfl, rfl, rfl, rfl, rfl, rfl, rfl⟩
    · rw [e]
      rfl
  · have := cns_le (Y := Y) (a := sa sp) (N := sN sp) (n := 0) (js := fun _ => none)
    omega
  · have := cns_le (Y := Y) (a := sa sp) (N := sN sp) (n := 0) (js := fun _ => none)
    omega
end AskedDrive
