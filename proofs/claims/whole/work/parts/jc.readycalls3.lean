/-! THE PUBLIC METHODS in the ready state: pick, value; the way that is not sought -/
def Fwy : Uf := ⟨[], [(158, 4)], [], [], [], false⟩
def Fwz : Uf := ⟨[], [(158, 4)], [], [(161, 1)], [], true⟩
section ReadyCalls3
variable {H H0 H1 : mu_H} {U V KU Xt : Ud} {m d P fb NN us nf nw nb kN ns sp : Nat} {C : Nat → Nat} {Y : Ts} {f od bs lv lc wa wn wi cl ro z me sa sN si : Nat → Nat} {es nm tm : Nat → Int32} {wk p : Nat → Bool} {S FS : Nat → Nat → Bool} {bo oid : Nat → Nat → Nat} {Gr : Nat → Nat → Prop} {al : Nat → Prop} {L4 L8 : Nat → Int64} {F : Uf}
variable {n s r T k a cn lst o w vr pl gq q0 : Nat} {sh : Nat → Nat} {lpo : Option Nat} {A : Nat → Prop} {x : Int32}
/-- pick -/
theorem crd_pickR (h : um m H) (hU : CRI (ud m H) m Y es P f od KU Xt ns sa sN si fb NN us S z p nf nm tm bs lv lc oid nw wa wn wi wk nb bo cl al ro Gr me kN FS L4 L8) (h4 : mu_r H 0 4 = some m) (h3 : ¬ mu_i H 0 3 = 0) (hS : SHN (ud m H) cn sh lpo) (hcn : cn ≤ 2000) (hsh : ∀ j, j < cn → sh j < pd f 0 P) (hn : n < 2147483648) : mu_MT (mu_D (d + 22)) 75 [.inr (.inr (some 0)), .inl (nI n)] H (fun r => (n < cn ∧ r = (.inl (some (.inl (nI (ctn ((GOS Y KU Xt f P od) (sh n)) (pd f 0 P))))), mu_si H 0 13 (nI (sh n)))) ∨ (cn ≤ n ∧ r = (.inr 3, mu_ex H))) := by
  have e11 : mu_i H 158 11 = nI cn := (ud_i (m := m) (P := 158) (j := 11) rfl rfl).trans hS.1
  have hlt : (nI n < mu_i H 158 11) ↔ n < cn := by rw [e11]; exact nI_ltI hn (by omega)
  refine pv_pickS h.1.1 h.2 h4 (nI n) (fun _ _ y => ?_) (fun _ _ y => ?_) (fun _ _ y => ?_) (fun _ y => absurd y h3) (fun y => absurd y (nI_pos (by omega)))
  · have := hlt.mp y
    rw [show mu_n H 166 = 2000 from (h.1.1.a (p := 166) (x := (100, 2000)) rfl).2]
    exact vp_in_nI (by omega) (by decide)
  · have hl := hlt.mp y
    rw [show (nI n).toNatClampNeg = n from nI_clamp (by omega), show mu_i H 166 n = nI (sh n) from (h.gA (V := ud m H) (P := 158) (J := 9) (R := some 166) rfl rfl rfl ((ud_q (m := m) (P := 158) (j := 9) rfl rfl).symm.trans (h.1.1.r (p := 158) (j := 9) (q := 166) rfl))).trans (hS.2.2 n hl)]
    exact (crd_enter (d := d) h hU h4 (hsh n hl)).imp (fun r e => Or.inl ⟨_, _, e, by rw [e]; exact Or.inl ⟨hl, rfl⟩⟩)
  · have hl : ¬ n < cn := fun z => y (hlt.mpr z)
    exact (crd_enterN (d := d) h h4).imp (fun r e => Or.inr ⟨_, _, e, by decide, by rw [e]; exact Or.inr ⟨by omega, rfl⟩⟩)
/-- value of a word that has no place -/
theorem crd_value0 (h : um m H) (hU : CRI (ud m H) m Y es P f od KU Xt ns sa sN si fb NN us S z p nf nm tm bs lv lc oid nw wa wn wi wk nb bo cl al ro Gr me kN FS L4 L8) (h4 : mu_r H 0 4 = some m) (h3 : ¬ mu_i H 0 3 = 0) (h13 : mu_i H 0 13 = nI s) (hs : s < pd f 0 P) (hn : w < ((ud m H).1 15).1) (hb : ((ud m H).1 15).1 < 2147483648) (hw0 : ((ud m H).1 15).2 w 0 = nI vr) (hvr : vr < 2147483648) (hw2 : ((ud m H).1 15).2 w 2 = -1) : mu_MT (mu_D (d + 22)) 85 [.inr (.inr (some 0)), .inl (nI w)] H (fun r => r = (.inl (some (.inl (if vso (ud m H).1 vr = 3 then nI 0 else wor (ud m H).1 vr 0))), H)) := by
  have hTb := hU.tw.2
  refine pv_valueS (A1 := fun x K => x = (if vso (ud m H).1 vr = 3 then nI 0 else wor (ud m H).1 vr 0) ∧ K = H) h.1.1 h.2 h4 (nI w) (fun _ _ _ _ => ?_) (fun x K y => by rw [y.2]; exact h.1.1) (fun _ y => absurd y h3) (fun x K y _ => by rw [y.1, y.2]) (fun _ _ _ y => absurd y (by rw [h13]; exact nI_pos (by omega))) (fun y => absurd y (nI_pos (by omega))) (fun _ _ y => absurd ?_ y)
  · rw [h13]
    exact pr_worthOf0 (d := d + 18) h rfl hU.1.1.2.2.2.2.2.2.2 (by omega) hw0 hvr hw2
  · rw [um.size (j := 15) h rfl (by decide) (show m + 31 = ra m 15 from rfl)]
    exact (nI_ltI (by omega) hb).mpr hn
/-- value of a word that has place pl -/
theorem crd_value1 (h : um m H) (hU : CRI (ud m H) m Y es P f od KU Xt ns sa sN si fb NN us S z p nf nm tm bs lv lc oid nw wa wn wi wk nb bo cl al ro Gr me kN FS L4 L8) (h4 : mu_r H 0 4 = some m) (h3 : ¬ mu_i H 0 3 = 0) (h13 : mu_i H 0 13 = nI s) (hs : s < pd f 0 P) (hn : w < ((ud m H).1 15).1) (hb : ((ud m H).1 15).1 < 2147483648) (hw0 : ((ud m H).1 15).2 w 0 = nI vr) (hvr : vr < 2147483648) (hw2 : ((ud m H).1 15).2 w 2 = nI pl) (hpl : pl < P) : mu_MT (mu_D (d + 22)) 85 [.inr (.inr (some 0)), .inl (nI w)] H (fun r => r = (.inl (some (.inl (if vso (ud m H).1 vr = 3 then nI (s / max 1 (pd f (pl + 1) (P - 1 - pl)) % max 1 (f pl)) else wor (ud m H).1 vr (s / max 1 (pd f (pl + 1) (P - 1 - pl)) % max 1 (f pl))))), H)) := by
  have hTb := hU.tw.2
  have hX := (RDX.rsk hU.1.1.1).1.1
  refine pv_valueS (A1 := fun x K => x = (if vso (ud m H).1 vr = 3 then nI (s / max 1 (pd f (pl + 1) (P - 1 - pl)) % max 1 (f pl)) else wor (ud m H).1 vr (s / max 1 (pd f (pl + 1) (P - 1 - pl)) % max 1 (f pl))) ∧ K = H) h.1.1 h.2 h4 (nI w) (fun _ _ _ _ => ?_) (fun x K y => by rw [y.2]; exact h.1.1) (fun _ y => absurd y h3) (fun x K y _ => by rw [y.1, y.2]) (fun _ _ _ y => absurd y (by rw [h13]; exact nI_pos (by omega))) (fun y => absurd y (nI_pos (by omega))) (fun _ _ y => absurd ?_ y)
  · rw [h13]
    exact pr_worthOf1 (d := d + 18) h rfl hU.1.1.2.2.2.2.2.2.2 (by omega) hw0 hvr hw2 hX hpl hX.2.2.2.1.1 (by omega)
  · rw [um.size (j := 15) h rfl (by decide) (show m + 31 = ra m 15 from rfl)]
    exact (nI_ltI (by omega) hb).mpr hn
/-- only the number of sets changes -/
theorem CRI.cnt1 (h : CRI U m Y es P f od KU Xt ns sa sN si fb NN us S z p nf nm tm bs lv lc oid nw wa wn wi wk nb bo cl al ro Gr me kN FS L4 L8) : CRI (upI U 158 4 x) m Y es P f od KU Xt ns sa sN si fb NN us S z p nf nm tm bs lv lc oid nw wa wn wi wk nb bo cl al ro Gr me kN FS L4 L8 := by
  have hq : uq Fwy U (upI U 158 4 x) := (uq.refl Fwy U).I rfl
  exact h.keepP hq ⟨rfl, rfl, fun _ => rfl, rfl⟩ (RDX.keep4 h.1.1.1 hq rfl rfl rfl rfl) (h.1.1.2.1.keep hq rfl (NK.of_eq rfl)) h.1.1.2.2.2.2.1.2 h.1.2.1 rfl rfl (fun _ => rfl) (fun _ => rfl) rfl rfl rfl rfl rfl rfl rfl rfl rfl rfl
theorem CRI.cnt (h : CRI U m Y es P f od KU Xt ns sa sN si fb NN us S z p nf nm tm bs lv lc oid nw wa wn wi wk nb bo cl al ro Gr me kN FS L4 L8) : CRI (upI (upI U 158 4 1) 158 4 x) m Y es P f od KU Xt ns sa sN si fb NN us S z p nf nm tm bs lv lc oid nw wa wn wi wk nb bo cl al ro Gr me kN FS L4 L8 := h.cnt1.cnt1
/-- a set is made -/
theorem CRI.mk (h : CRI U m Y es P f od KU Xt ns sa sN si fb NN us S z p nf nm tm bs lv lc oid nw wa wn wi wk nb bo cl al ro Gr me kN FS L4 L8) : CRI (upR (upC U 161 1 256) 161 1 (some q0)) m Y es P f od KU Xt ns sa sN si fb NN us S z p nf nm tm bs lv lc oid nw wa wn wi wk nb bo cl al ro Gr me kN FS L4 L8 := by
  have hq : uq (Fnw 161 1) U (upR (upC U 161 1 256) 161 1 (some q0)) := nw_uq
  have e114 : (upR (upC U 161 1 256) 161 1 (some q0)).2.2.2.2.2 114 = U.2.2.2.2.2 114 := funext fun c => nw_ne (fun z => absurd z.1 (by decide))
  have e163 : (upR (upC U 161 1 256) 161 1 (some q0)).2.2.2.2.2 163 = U.2.2.2.2.2 163 := funext fun c => nw_ne (fun z => absurd z.1 (by decide))
  obtain ⟨⟨⟨w1, w2, w3, w4, ⟨w5, w6⟩, ⟨w7, w8⟩, w9, w10⟩, x14, hK, x15, x98⟩, h2, h3, h5, h7, h8⟩ := h
  exact ⟨⟨⟨RDX.keep4 w1 hq rfl rfl rfl e114, w2.keep hq rfl (NK.of_eq rfl), w3.eq rfl rfl (fun c => by rw [e114]), w4.new (by decide), ⟨(hq.r 158 22 rfl).trans w5, w6⟩, ⟨w7, w8⟩, w9, (hq.r 99 0 rfl).trans w10⟩, x14, hK.same rfl (fun c => hq.r 163 c rfl) e163, x15, x98⟩, h2, h3, h5, h7, h8⟩
/-- seekWay where none is wanted: set 1 is there -/
theorem crd_wayR (h : um m H) (hU : CRI (ud m H) m Y es P f od KU Xt ns sa sN si fb NN us S z p nf nm tm bs lv lc oid nw wa wn wi wk nb bo cl al ro Gr me kN FS L4 L8) (hsp : sp < 2147483648) (h171 : ((ud m H).1 17).2 sp 1 = nI (lst + 1)) (hlb : lst < 2147483646) (hou : ((ud m H).1 0).2 lst 0 = nI o) (ho34 : o ≤ 34) (ho28 : ¬ o = 28) (hl0 : LSN (ud m H) 161 0 gq 256) : mu_TV (mu_D (d + 21)) 367 [.inr (.inr (some 158)), .inl (nI sp)] H (fun H1 => (um m H1 ∧ ur m C H H1) ∧ CRI (ud m H1) m Y es P f od KU Xt ns sa sN si fb NN us S z p nf nm tm bs lv lc oid nw wa wn wi wk nb bo cl al ro Gr me kN FS L4 L8 ∧ (LSN (ud m H1) 161 0 gq 256 ∧ lgf (ud m H1) 161 0 = lgf (ud m H) 161 0) ∧ (∃ g1, LSN (ud m H1) 161 1 g1 256) ∧ (ud m H1).2.2.1 = (ud m H).2.2.1 ∧ KPW (ud m H) (ud m H1)) := by
  have hmo := hU.1.1.2.2.2.2.2.2.2
  rcases hU.1.1.2.2.2.1.1 1 (by decide) with hn | ⟨g1, hg1⟩
  · refine (pr_wayn (d := d + 16) (C := C) h rfl hmo hsp h171 hlb hou ho34 ho28 hn).imp (fun H1 y => ?_)
    obtain ⟨y1, y2, q, y3⟩ := y
    rw [y3]
    have k0 := nw_keep (U := upI (ud m H) 158 4 1) (a := 161) (c := 1) (q := q) (N := 256) (b := 161) (j := 0) (p := gq) (L := 256) hl0 (by decide)
    exact ⟨⟨y1, y2⟩, (CRI.mk hU.cnt1).cnt1, k0, ⟨q, nw_lsn (U := upI (ud m H) 158 4 1) (Or.inl rfl) (plp161 (by decide))⟩, rfl, KPW.of_uq (F := Fwz) ((((uq.refl Fwz _).I rfl).tr nw_uq rfl).I rfl) rfl (funext fun c => nw_ne (U := upI (ud m H) 158 4 1) (fun z => absurd z.1 (by decide)))⟩
  · refine (pr_ways (d := d + 16) (C := C) h rfl hmo hsp h171 hlb hou ho34 ho28 hg1).imp (fun H1 y => ?_)
    obtain ⟨y1, y2, y3⟩ := y
    rw [y3]
    exact ⟨⟨y1, y2⟩, hU.cnt, ⟨hl0, rfl⟩, ⟨g1, hg1⟩, rfl, KPW.of_uq (F := Fwy) (((uq.refl Fwy _).I rfl).I rfl) rfl rfl⟩
end ReadyCalls3
