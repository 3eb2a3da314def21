/-! DRIVE behind fetch: a row is laid out -/
def Fft : Uf := ⟨[], [(147, 14), (147, 15)], [], [], [], false⟩
section Fetched
variable {H H0 : mu_H} {U U0 V V' V0 V3 X K0 : Ud} {m d P R wd nk N a i0 into n sc jl jr sj qs i N0 fb NN us nf nw nb : Nat} {C : Nat → Nat} {Y : Ts} {f od bs lv lc wa wn wi cl ro z mb me : Nat → Nat} {es rs nm tm : Nat → Int32} {wk p : Nat → Bool} {S FS : Nat → Nat → Bool} {bo oid : Nat → Nat → Nat} {Gr G : Nat → Nat → Prop} {al E Fr : Nat → Prop} {js : Nat → Option Nat} {F : Uf} {L4 L8 : Nat → Int64} {Q : Nat → Nat → Nat → Prop} {Φ : mu_R → Prop}
variable {ns s r q : Nat} {KW : Ud} {sa sN si : Nat → Nat} {D : Nat → Nat → Prop}
/-- idle stays idle -/
theorem idl_keep (hU : (SKW U m (RDK m od Y es P f fb Gr NN us S z p nf nm tm bs lv lc oid nw wa wn wi wk nb bo cl al ro) (pd f 0 P) R wd ro mb me nk FS L4 L8 Y ∧ U.2.1 158 14 = 0 ∧ KPT U (pd f 0 P) wd ns E (SPD Y G E Fr nk (fun f t => FS f t = true) KW f P od sa sN si) ∧ U.1 15 = KW.1 15 ∧ U.2.2.1 99 8 = KW.2.2.1 99 8)) (hq : uq F U V) (hR : RDK m od Y es P f fb Gr NN us S z p nf nm tm bs lv lc oid nw wa wn wi wk nb bo cl al ro V) (k1 : grok F = true) (k2 : in2 F.a 147 10 = false) (k3 : in2 F.i 99 19 = false) (k4 : in2 F.a 113 3 = false) (k5 : F.p = false) (k6 : in2 F.n 158 22 = false) (k7 : V.2.1 147 15 = -1) (k8 : in1 F.l 124 = false) (k9 : in1 F.l 148 = false) (l1 : in1 F.t 0 = false) (l2 : in2 F.n 99 0 = false) (l3 : in2 F.i 158 14 = false) (l4 : in2 F.a 158 7 = false) (l5 : in1 F.t 15 = false) (l6 : in2 F.a 99 8 = false) (l7 : ∀ c, in2 F.n 161 c = false) (l8 : ∀ c, in2 F.n 163 c = false) : (SKW V m (RDK m od Y es P f fb Gr NN us S z p nf nm tm bs lv lc oid nw wa wn wi wk nb bo cl al ro) (pd f 0 P) R wd ro mb me nk FS L4 L8 Y ∧ V.2.1 158 14 = 0 ∧ KPT V (pd f 0 P) wd ns E (SPD Y G E Fr nk (fun f t => FS f t = true) KW f P od sa sN si) ∧ V.1 15 = KW.1 15 ∧ V.2.2.1 99 8 = KW.2.2.1 99 8) := by
  obtain ⟨⟨w1, w2, w3, w4, ⟨w5, w6⟩, ⟨w7, w8⟩, w9, w10⟩, h14, hK, x15, x98⟩ := hU
  have ep := hq.2.2.2.2.2 k5
  exact ⟨⟨hR, w2.keep hq k1 (NK.of_eq (hq.a 147 10 k2)), w3.eq (hq.i 99 19 k3) (hq.a 113 3 k4) (fun c => by rw [ep]), w4.keepq hq l7 l8 k5, ⟨(hq.r 158 22 k6).trans w5, k7⟩, ⟨(hq.l 124 k8).trans w7, (hq.l 148 k9).trans w8⟩, (hq.t 0 l1).trans w9, (hq.r 99 0 l2).trans w10⟩, (hq.i 158 14 l3).trans h14, hK.same (by rw [hq.a 158 7 l4]) (fun c => hq.r 163 c (l8 c)) (by rw [ep]), (hq.t 15 l5).trans x15, (hq.a 99 8 l6).trans x98⟩
/-- drive behind fetch -/
theorem pv_driveF (hRN : R = NN - fb) (hmem : ∀ r, ¬ r = 0 → r < R → ∃ s, s < pd f 0 P ∧ ro s = r) (hC21 : 2 * (((Y 13).1 + 2) * 4) + 4 ≤ C 21) (hC21b : C 21 ≤ 8388608) (hs : s < pd f 0 P) (hr : ro s < R) (h : um m H) (hU : (SKW U m (RDK m od Y es P f fb Gr NN us S z p nf nm tm bs lv lc oid nw wa wn wi wk nb bo cl al ro) (pd f 0 P) R wd ro mb me nk FS L4 L8 Y ∧ U.2.1 158 14 = 0 ∧ KPT U (pd f 0 P) wd ns E (SPD Y G E Fr nk (fun f t => FS f t = true) KW f P od sa sN si) ∧ U.1 15 = KW.1 15 ∧ U.2.2.1 99 8 = KW.2.2.1 99 8)) (e : ud m H = upI (upI U 147 14 (6 : Int32)) 147 15 ((U.2.2.1 129 6).2 s)) : mu_TV (mu_D (d + 21)) 376 [.inr (.inr (some 0))] H (fun H1 => um m H1 ∧ ur m C H H1 ∧ (SKW (ud m H1) m (RDK m od Y es P f fb Gr NN us S z p nf nm tm bs lv lc oid nw wa wn wi wk nb bo cl al ro) (pd f 0 P) R wd ro mb me nk FS L4 L8 Y ∧ (ud m H1).2.1 158 14 = 0 ∧ KPT (ud m H1) (pd f 0 P) wd ns E (SPD Y G E Fr nk (fun f t => FS f t = true) KW f P od sa sN si) ∧ (ud m H1).1 15 = KW.1 15 ∧ (ud m H1).2.2.1 99 8 = KW.2.2.1 99 8) ∧ (∀ t, t < 16384 → (bts ((ud m H1).2.2.2.2.1 146) t = true ↔ S (fb + ro s) t = true)) ∧ KPW U (ud m H1)) := by
  have hq0 : uq Fft U (ud m H) := by rw [e]; exact ((uq.refl Fft _).I rfl).I rfl
  have hR0 : RDX (ud m H) m od Y es P f fb (pd f 0 P) Gr NN us S z p nf nm tm bs lv lc oid nw wa wn wi wk nb bo cl al ro := RDX.keep4 hU.1.1 hq0 rfl rfl rfl (congrFun (hq0.2.2.2.2.2 rfl) 114)
  have hG0 : GRB (ud m H) (pd f 0 P) R wd ro mb me := hU.1.2.1.keep hq0 rfl (NK.of_eq (hq0.a 147 10 rfl))
  have h15 : (ud m H).2.1 147 15 = nI (ro s) := by
    rw [e]
    exact (hU.1.2.1.2.1.2 s hs).1
  refine pv_driveW (fun Φ hΦ => ?_)
  refine dr_fetch (d := d) (C := C) (wd := wd) (mb := mb) (me := me) hRN hmem hC21 hC21b h (by decide) hR0 hG0 (by rw [e]; rfl) h15 hr (fun H3 V bf bt u3 r3 q3 d3 R3 hrow => ?_)
  have q4 : uq Fft V (ud m H3) := by rw [d3]; exact (uq.refl Fft _).I rfl
  have hq : uq (⟨F376.t, Fft.i ++ F376.i, F376.a, F376.n, F376.l, false⟩ : Uf) U (ud m H3) := ((hq0.mono rfl).trans (q3.mono rfl)).trans (q4.mono rfl)
  have hR3 : RDK m od Y es P f fb Gr NN us S z p nf nm tm bs lv lc oid nw wa wn wi wk nb bo cl al ro (ud m H3) := RDX.keep4 R3 q4 rfl rfl rfl (congrFun (q4.2.2.2.2.2 rfl) 114)
  have hI : (SKW (ud m H3) m (RDK m od Y es P f fb Gr NN us S z p nf nm tm bs lv lc oid nw wa wn wi wk nb bo cl al ro) (pd f 0 P) R wd ro mb me nk FS L4 L8 Y ∧ (ud m H3).2.1 158 14 = 0 ∧ KPT (ud m H3) (pd f 0 P) wd ns E (SPD Y G E Fr nk (fun f t => FS f t = true) KW f P od sa sN si) ∧ (ud m H3).1 15 = KW.1 15 ∧ (ud m H3).2.2.1 99 8 = KW.2.2.1 99 8) := idl_keep hU hq hR3 rfl rfl rfl rfl rfl rfl (by rw [d3]; rfl) rfl rfl rfl rfl rfl rfl rfl rfl (fun _ => rfl) (fun _ => rfl)
  refine dr_idle (C := C) u3 (by decide) hI.1.2.2.2.2.1.2 hI.1.2.2.2.2.1.1 hI.2.1 (fun H4 u4 r4 e4 => hΦ H4 ⟨u4, r3.trans r4, ?_⟩)
  rw [e4]
  refine ⟨hI, fun t ht => ?_, KPW.of_uq hq rfl (congrFun (hq.2.2.2.2.2 rfl) 114)⟩
  rw [q4.l 146 rfl]
  exact hrow.2 t ht
/-- how many STATES a row has -/
theorem RDX.szr (h : RDX V m od Y es P f fb (pd f 0 P) Gr NN us S z p nf nm tm bs lv lc oid nw wa wn wi wk nb bo cl al ro) (hr : fb + r < NN) : SZR V fb r (z (fb + r)) := by
  have hS := h.1.1.2.2.2.2.2.2.1
  cases hp : p (fb + r)
  · exact Or.inr (hS.2.2.2.2.2.1 _ hr hp)
  · obtain ⟨st, fc, y1, -, y3, -⟩ := hS.2.2.2.2.1 _ hr hp
    exact Or.inl ⟨st, fc, y1, y3⟩
theorem RDX.sz0 (h : RDX V m od Y es P f fb (pd f 0 P) Gr NN us S z p nf nm tm bs lv lc oid nw wa wn wi wk nb bo cl al ro) (hr : fb + r < NN) : z (fb + r) = 0 ↔ ∀ x, ¬ S (fb + r) x = true := by
  obtain ⟨ls, -, -, y⟩ := h.1.1.2.2.2.2.2.2.1.2.2.2.2.2.2 _ hr
  rw [y]
  constructor
  · intro e x hx
    rw [e] at hx
    cases hx
  · intro hn
    by_cases e : z (fb + r) = 0
    · exact e
    · exact absurd ((lmz_iff _).mpr ⟨0, Nat.pos_of_ne_zero e, rfl⟩) (hn (ls 0))
theorem RDX.szb (h : RDX V m od Y es P f fb (pd f 0 P) Gr NN us S z p nf nm tm bs lv lc oid nw wa wn wi wk nb bo cl al ro) (hr : fb + r < NN) : z (fb + r) ≤ 16384 := by
  obtain ⟨ls, y1, y2, -⟩ := h.1.1.2.2.2.2.2.2.1.2.2.2.2.2.2 _ hr
  exact pig_le 16384 (z (fb + r)) ls (fun i hi => y2 i hi) (fun i j hi hj e => by
    rcases Nat.lt_trichotomy i j with y | y | y
    · have := y1 i j y hj; omega
    · exact y
    · have := y1 j i y hi; omega)
end Fetched
