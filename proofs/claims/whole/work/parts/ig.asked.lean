/-! THE STATES OF A SPEC: asked for, sought, kept -/
def RDK (m : Nat) (od : Nat → Nat) (Y : Ts) (es : Nat → Int32) (P : Nat) (f : Nat → Nat) (fb : Nat) (Gr : Nat → Nat → Prop) (NN us : Nat) (S : Nat → Nat → Bool) (z : Nat → Nat) (p : Nat → Bool) (nf : Nat) (nm tm : Nat → Int32) (bs lv lc : Nat → Nat) (oid : Nat → Nat → Nat) (nw : Nat) (wa wn wi : Nat → Nat) (wk : Nat → Bool) (nb : Nat) (bo : Nat → Nat → Nat) (cl : Nat → Nat) (al : Nat → Prop) (ro : Nat → Nat) (V : Ud) : Prop := RDX V m od Y es P f fb (pd f 0 P) Gr NN us S z p nf nm tm bs lv lc oid nw wa wn wi wk nb bo cl al ro
/-- the STATES that have a SPEC -/
def SPD (Y : Ts) (G : Nat → Nat → Prop) (E Fr : Nat → Prop) (nk : Nat) (Fs : Nat → Nat → Prop) (KW : Ud) (f : Nat → Nat) (P : Nat) (od sa sN si : Nat → Nat) (i s : Nat) : Prop := CTS Y G E Fr nk Fs (lvq Y KW f P od (si i)) (sa i) (sN i) 0 s
/-- what is kept of SPECS -/
def KPT (V : Ud) (T wd ns : Nat) (E : Nat → Prop) (D : Nat → Nat → Prop) : Prop := ∀ k, k < 64 → (V.2.2.1 158 7).2 k = -1 ∨ ∃ i, i < ns ∧ i % 64 = k ∧ (V.2.2.1 158 7).2 k = nI i ∧ ∃ q L, (L = 16 ∨ L = 256) ∧ wd ≤ L ∧ LSN V 163 k q L ∧ ∀ s, s < 64 * wd → (bts (lgf V 163 k) s = true ↔ E s ∧ D i s)
def Fkp (k : Nat) : Uf := ⟨[], [(158, 14)], [(158, 7)], [(163, k)], [148, 162], true⟩
def Fek : Uf := ⟨[26], [(158, 4), (158, 14), (158, 15), (158, 16), (158, 17), (158, 18), (158, 19), (158, 20)], [], [], [], false⟩
/-- a set is kept -/
def KPA (U V : Ud) (wd k sp : Nat) : Prop := uq (Fkp k) U V ∧ (V.2.2.2.2.1 148 = U.2.2.2.2.1 148 ∧ V.2.2.2.2.1 162 = U.2.2.2.2.1 162) ∧ (∀ b c, ¬ (163 = b ∧ k = c) → V.2.2.2.2.2 b c = U.2.2.2.2.2 b c) ∧ (∀ x, (V.2.2.1 158 7).2 x = if x = k then nI sp else (U.2.2.1 158 7).2 x) ∧ ∃ q L, (L = 16 ∨ L = 256) ∧ wd ≤ L ∧ LSN V 163 k q L ∧ ∀ j, j < wd → lgf V 163 k j = lgf U 161 0 j
section Asked
variable {H H0 : mu_H} {U U0 V V' V0 V3 X K0 : Ud} {m d P R wd nk N a i0 into n sc jl jr sj qs i N0 fb NN us nf nw nb : Nat} {C : Nat → Nat} {Y : Ts} {f od bs lv lc wa wn wi cl ro z mb me : Nat → Nat} {es rs nm tm : Nat → Int32} {wk p : Nat → Bool} {S FS : Nat → Nat → Bool} {bo oid : Nat → Nat → Nat} {Gr G : Nat → Nat → Prop} {al E Fr : Nat → Prop} {js : Nat → Option Nat} {F : Uf} {L4 L8 : Nat → Int64} {Q : Nat → Nat → Nat → Prop} {Φ : mu_R → Prop}
variable {W : Ud} {T L k q sp ns c : Nat} {D : Nat → Nat → Prop} {KW : Ud} {sa sN si : Nat → Nat} {PV : mu_H → Prop}
theorem LSN.mv {b j : Nat} (h : LSN U b j q L) (hr : V.2.2.2.1 b j = U.2.2.2.1 b j) (hp : V.2.2.2.2.2 b j = U.2.2.2.2.2 b j) : LSN V b j q L := h.imp id (fun ⟨x1, x2, x3, x4⟩ => ⟨x1, x2, hr.trans x3, by rw [hp]; exact x4⟩)
theorem lgf_pl {b j : Nat} (hb : ¬ b = 0) (hp : V.2.2.2.2.2 b j = U.2.2.2.2.2 b j) : lgf V b j = lgf U b j := by
  funext x
  unfold lgf
  rw [if_neg hb, if_neg hb, hp]
theorem fkp_ne (hc : ¬ c = k) : in2 (Fkp k).n 163 c = false := by
  cases e : Nat.beq k c with
  | true => exact absurd (Nat.eq_of_beq_eq_true e).symm hc
  | false =>
    show ((Nat.beq 163 163 && Nat.beq k c) || false) = false
    rw [e]; rfl
theorem KPT.same (h : KPT U T wd ns E D) (e1 : (V.2.2.1 158 7).2 = (U.2.2.1 158 7).2) (e2 : ∀ c, V.2.2.2.1 163 c = U.2.2.2.1 163 c) (e3 : V.2.2.2.2.2 163 = U.2.2.2.2.2 163) : KPT V T wd ns E D := fun k hk => by
  rw [e1]
  rcases h k hk with y | ⟨i, y1, y2, y3, q, L, y4, y5, y6, y7⟩
  · exact Or.inl y
  · refine Or.inr ⟨i, y1, y2, y3, q, L, y4, y5, y6.mv (e2 k) (by rw [e3]), ?_⟩
    rw [lgf_pl (U := U) (V := V) (b := 163) (j := k) (by decide) (by rw [e3])]
    exact y7
theorem KEP.kpt (h : KEP U V) (hK : KPT U T wd ns E D) : KPT V T wd ns E D := hK.same (by rw [h.2.2.1 158 7 rfl]) (fun c => (h.2.2.2.1 163 c (by decide) rfl).2) h.2.2.2.2.2.2
/-- what is kept is known -/
theorem KPT.of (h : KPT V T wd ns E D) (hi : i < 2147483648) (hns : ns ≤ 2147483648) (hk : (V.2.2.1 158 7).2 (i % 64) = nI i) : ∃ q L, (L = 16 ∨ L = 256) ∧ wd ≤ L ∧ LSN V 163 (i % 64) q L ∧ ∀ s, s < 64 * wd → (bts (lgf V 163 (i % 64)) s = true ↔ E s ∧ D i s) := by
  rcases h (i % 64) (Nat.mod_lt i (by decide)) with y | ⟨j, y1, y2, y3, y4⟩
  · rw [hk] at y
    exact absurd y (nI_neg1 hi)
  · rw [hk] at y3
    have := nI_inj hi (by omega) y3
    subst this
    exact y4
theorem KPA.fin (h : KPA U V wd k sp) : KPA U (upI V 158 14 0) wd k sp := ⟨h.1.I rfl, h.2.1, h.2.2.1, h.2.2.2.1, h.2.2.2.2⟩
theorem KPA.skw (h : KPA U V wd k sp) (hk : k < 64) (hw : SKW U m (RDK m od Y es P f fb Gr NN us S z p nf nm tm bs lv lc oid nw wa wn wi wk nb bo cl al ro) (pd f 0 P) R wd ro mb me nk FS L4 L8 Y) : SKW V m (RDK m od Y es P f fb Gr NN us S z p nf nm tm bs lv lc oid nw wa wn wi wk nb bo cl al ro) (pd f 0 P) R wd ro mb me nk FS L4 L8 Y := by
  obtain ⟨q1, ⟨e148, -⟩, ep, -, qn, L, hL, -, hl, -⟩ := h
  obtain ⟨w1, w2, w3, w4, ⟨w5, w6⟩, ⟨w7, w8⟩, w9, w10⟩ := hw
  refine ⟨RDX.keep4 w1 q1 rfl rfl rfl (funext fun c => ep 114 c (fun y => absurd y.1 (by decide))), w2.keep q1 rfl (NK.of_eq (q1.a 147 10 rfl)), w3.eq (q1.i 99 19 rfl) (q1.a 113 3 rfl) (fun c => ep 114 c (fun y => absurd y.1 (by decide))), ⟨fun c hc => ?_, fun c hc => ?_⟩, ⟨(q1.r 158 22 rfl).trans w5, (q1.i 147 15 rfl).trans w6⟩, ⟨(q1.l 124 rfl).trans w7, e148.trans w8⟩, (q1.t 0 rfl).trans w9, (q1.r 99 0 rfl).trans w10⟩
  · have e := ep 161 c (fun y => absurd y.1 (by decide))
    rcases w4.1 c hc with y | ⟨q, y⟩
    · exact Or.inl (e.trans y)
    · exact Or.inr ⟨q, y.mv (q1.r 161 c rfl) e⟩
  · by_cases hck : c = k
    · subst hck
      exact Or.inr ⟨qn, L, hL, hl⟩
    · have e := ep 163 c (fun y => hck y.2.symm)
      rcases w4.2 c hc with y | ⟨q, L', y1, y⟩
      · exact Or.inl (e.trans y)
      · exact Or.inr ⟨q, L', y1, y.mv (q1.r 163 c (fkp_ne hck)) e⟩
theorem KPA.kpt (h : KPA U V wd (sp % 64) sp) (hK : KPT U T wd ns E D) (hsp : sp < ns) (hTw : T ≤ 64 * wd) (hset : ∀ s, s < 64 * wd → (bts (lgf U 161 0) s = true ↔ E s ∧ D sp s)) : KPT V T wd ns E D := fun k hk => by
  obtain ⟨q1, -, ep, e7, qn, L, hL, hwL, hl, hwd⟩ := h
  rw [e7 k]
  by_cases hck : k = sp % 64
  · rw [if_pos hck]
    subst hck
    refine Or.inr ⟨sp, hsp, rfl, rfl, qn, L, hL, hwL, hl, fun s hs => ?_⟩
    rw [← hset s hs]
    unfold bts
    rw [hwd (s / 64) (by omega)]
  · rw [if_neg hck]
    have e := ep 163 k (fun y => hck y.2.symm)
    rcases hK k hk with y | ⟨i, y1, y2, y3, q, L', y4, y5, y6, y7⟩
    · exact Or.inl y
    · refine Or.inr ⟨i, y1, y2, y3, q, L', y4, y5, y6.mv (q1.r 163 k (fkp_ne hck)) e, ?_⟩
      rw [lgf_pl (U := U) (V := V) (b := 163) (j := k) (by decide) e]
      exact y7
/-- PathProver$Prover.keep, what it comes to -/
theorem pr_keepall (h : um m H) (e : ud m H = U) (hw12 : U.2.1 99 12 = nI wd) (hT : U.2.1 99 11 = nI T) (hTw : wd = (T + 63) / 64) (hTb : T ≤ 16384) (hsp : sp < 2147483648) (hlo : LSN U 161 0 q 256) (hP : PLS U) : mu_TV (mu_D (d + 2)) 351 [.inr (.inr (some 158)), .inl (nI sp)] H (fun H1 => um m H1 ∧ ur m C H H1 ∧ KPA U (ud m H1) wd (sp % 64) sp) := by
  have hwn : wd ≤ 256 := by omega
  have fin : ∀ (W X V : Ud) (qn L : Nat), uq (Fkp (sp % 64)) U W → (W.2.2.2.2.1 148 = U.2.2.2.2.1 148 ∧ W.2.2.2.2.1 162 = U.2.2.2.2.1 162) → (∀ b c, ¬ (163 = b ∧ sp % 64 = c) → W.2.2.2.2.2 b c = U.2.2.2.2.2 b c) → (W.2.2.1 158 7).2 = (U.2.2.1 158 7).2 → (L = 16 ∨ L = 256) → wd ≤ L → uq FLS W X → GKP 163 (sp % 64) W X → LSN X 163 (sp % 64) qn L → (∀ j, j < wd → lgf X 163 (sp % 64) j = lgf U 161 0 j) → V = upA X 158 7 (sp % 64) (nI sp) → KPA U V wd (sp % 64) sp := by
    intro W X V qn L a1 a2 a3 a4 a5 a6 b1 b2 b3 b4 b5
    subst b5
    refine ⟨(a1.tr b1 rfl).A rfl, ⟨(b2.1 148 (Or.inl rfl) (fun y => absurd y.1 (by decide))).trans a2.1, (b2.1 162 (Or.inr rfl) (fun y => absurd y.1 (by decide))).trans a2.2⟩, fun b c hn => (b2.2.1 b c hn).trans (a3 b c hn), fun x => ?_, qn, L, a5, a6, b3, b4⟩
    show (f2 X.2.2.1 158 7 _ 158 7).2 x = _
    unfold f2
    rw [if_pos ⟨rfl, rfl⟩]
    show (if x = sp % 64 then nI sp else (X.2.2.1 158 7).2 x) = _
    rw [b1.a 158 7 rfl, a4]
  have new : ∀ (q1 L : Nat), uq (Fkp (sp % 64)) U (upR (upC U 163 (sp % 64) L) 163 (sp % 64) (some q1)) ∧ ∀ b c, ¬ (163 = b ∧ sp % 64 = c) → (upR (upC U 163 (sp % 64) L) 163 (sp % 64) (some q1)).2.2.2.2.2 b c = U.2.2.2.2.2 b c := fun q1 L => by
    refine ⟨⟨fun _ _ => rfl, fun _ _ _ => rfl, fun _ _ _ => rfl, fun b c hbc => ⟨rfl, ?_⟩, fun _ _ => rfl, fun y => by cases y⟩, fun b c hbc => ?_⟩
    · show f2 U.2.2.2.1 163 (sp % 64) (some q1) b c = _
      unfold f2
      refine if_neg (fun y => ?_)
      rw [y.1, y.2] at hbc
      have : in2 (Fkp (sp % 64)).n 163 (sp % 64) = true := by
        show ((Nat.beq 163 163 && Nat.beq (sp % 64) (sp % 64)) || false) = true
        rw [show Nat.beq (sp % 64) (sp % 64) = true from Nat.beq_refl _]
        rfl
      rw [this] at hbc
      cases hbc
    · show f2 U.2.2.2.2.2 163 (sp % 64) _ b c = _
      unfold f2
      exact if_neg (fun y => hbc ⟨y.1.symm, y.2.symm⟩)
  rcases hP.2 (sp % 64) (Nat.mod_lt sp (by decide)) with y | ⟨qk, L, hL, hl⟩
  · by_cases hTs : T ≤ 1024
    · refine (pr_keep_n16 (d := d) (C := C) h e hw12 hwn hT hTw hsp hlo y hTs).imp (fun H1 ⟨x1, x2, W, X, q1, x3, x4, x5, x6, x7, x8⟩ => ⟨x1, x2, ?_⟩)
      subst x3
      exact fin _ X _ q1 16 (new q1 16).1 ⟨rfl, rfl⟩ (new q1 16).2 rfl (Or.inl rfl) (by omega) x4 x5 x6 x7 x8
    · refine (pr_keep_n256 (d := d) (C := C) h e hw12 hwn hT hTw hsp hlo y hTs).imp (fun H1 ⟨x1, x2, W, X, q1, x3, x4, x5, x6, x7, x8⟩ => ⟨x1, x2, ?_⟩)
      subst x3
      exact fin _ X _ q1 256 (new q1 256).1 ⟨rfl, rfl⟩ (new q1 256).2 rfl (Or.inr rfl) (by omega) x4 x5 x6 x7 x8
  · by_cases hwL : wd ≤ L
    · refine (pr_keep_a (d := d) (C := C) h e hw12 hwn hT hTw hsp hlo hl hL hwL).imp (fun H1 ⟨x1, x2, W, X, x3, x4, x5, x6, x7, x8⟩ => ⟨x1, x2, ?_⟩)
      subst x3
      exact fin _ X _ qk L (uq.refl _ _) ⟨rfl, rfl⟩ (fun _ _ _ => rfl) rfl hL hwL x4 x5 x6 x7 x8
    · have hL16 : L = 16 := by omega
      subst hL16
      refine (pr_keep_r (d := d) (C := C) h e hw12 hwn hT hTw hsp hlo hl (by omega)).imp (fun H1 ⟨x1, x2, W, X, q1, x3, x4, x5, x6, x7, x8⟩ => ⟨x1, x2, ?_⟩)
      subst x3
      exact fin _ X _ q1 256 (new q1 256).1 ⟨rfl, rfl⟩ (new q1 256).2 rfl (Or.inr rfl) (by omega) x4 x5 x6 x7 x8
/-- PathProver.drive()V, from its loop's head -/
theorem pv_driveW (hW2 : ∀ Φ : mu_R → Prop, (∀ H1, PV H1 → Φ (.inl none, H1)) → mu_W (mu_D (d + 20)) mu_m376 (2, [(1, .inl (nI 0)), (0, .inr (.inr (some 0)))], [], H) Φ) : mu_TV (mu_D (d + 21)) 376 [.inr (.inr (some 0))] H PV := by
  refine mu_meth (M := mu_m376) rfl rfl ?_
  refine mw_ht (mu_fn_of (show [0].Nodup by decide)) ?_
  refine mw_go mu_g376 (k := 2) (f1 := (2, [(1, .inl (nI 0)), (0, .inr (.inr (some 0)))], [], H)) (C := []) rfl trivial ?_
  exact hW2 _ (fun H1 y => ⟨H1, rfl, y⟩)
end Asked
