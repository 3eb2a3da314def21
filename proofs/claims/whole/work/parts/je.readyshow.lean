/-! SHOW in the ready state -/
/-- the first INITIAL STATE from which a SPEC is shown -/
def SST (o : Nat) (I D : Nat → Prop) (st : Nat) : Prop := (I st ∧ sgz o D st) ∧ ∀ s, s < st → ¬ (I s ∧ sgz o D s)
/-- where the second part of E [ ] starts -/
def EUP (Y : Ts) (a n j : Nat) : Prop := 1 ≤ tpz Y a n ∧ j < n ∧ tpz Y a j + 1 = tpz Y a n ∧ ∀ q, j < q → q ≤ n → tpz Y a n ≤ tpz Y a q
section ReadyShow
variable {H H0 H1 : mu_H} {U V KU Xt : Ud} {m d P fb NN us nf nw nb kN ns sp : Nat} {C : Nat → Nat} {Y : Ts} {f od bs lv lc wa wn wi cl ro z me sa sN si : Nat → Nat} {es nm tm : Nat → Int32} {wk p : Nat → Bool} {S FS : Nat → Nat → Bool} {bo oid : Nat → Nat → Nat} {Gr : Nat → Nat → Prop} {al : Nat → Prop} {L4 L8 : Nat → Int64} {F : Uf}
variable {n s r T k a cn lst o w vr pl gq q0 nn ga gN wN L : Nat} {sh : Nat → Nat} {lpo : Option Nat} {A : Nat → Prop} {x : Int32} {K : mu_H}
theorem sts_iff (hU : CRI U m Y es P f od KU Xt ns sa sN si fb NN us S z p nf nm tm bs lv lc oid nw wa wn wi wk nb bo cl al ro Gr me kN FS L4 L8) (hs : s < pd f 0 P) (hb : bts (lgf U 163 (sp % 64)) s = true ↔ (EVS Y KU f P od) s ∧ A s) : STS U sp o s ↔ (INS Y KU f P od) s ∧ sgz o A s := by
  have h1 : bts (U.2.2.2.2.1 125) s = true ↔ (INS Y KU f P od) s := hU.2.2.1.2 s (by omega)
  have e1 : sgz o A s = if 13 ≤ o ∧ o ≤ 15 then ¬ A s else A s := rfl
  rw [e1]
  constructor
  · rintro ⟨y1, y2⟩
    have hI := h1.mp y1
    have hE : (EVS Y KU f P od) s := ⟨hI.1, hI.2.2⟩
    refine ⟨hI, ?_⟩
    by_cases c : 13 ≤ o ∧ o ≤ 15
    · rw [if_pos c]
      exact fun y => y2 ⟨fun _ => c, fun _ => hb.mpr ⟨hE, y⟩⟩
    · rw [if_neg c]
      exact Classical.byContradiction fun y => y2 ⟨fun v => absurd (hb.mp v).2 y, fun v => absurd v c⟩
  · rintro ⟨y1, y2⟩
    refine ⟨h1.mpr y1, fun y => ?_⟩
    by_cases c : 13 ≤ o ∧ o ≤ 15
    · rw [if_pos c] at y2
      exact y2 (hb.mp (y.mpr c)).2
    · rw [if_neg c] at y2
      exact c (y.mp (hb.mpr ⟨⟨y1.1, y1.2.2⟩, y2⟩))
/-- startToShow -/
theorem crd_startR (h : um m H) (hU : CRI (ud m H) m Y es P f od KU Xt ns sa sN si fb NN us S z p nf nm tm bs lv lc oid nw wa wn wi wk nb bo cl al ro Gr me kN FS L4 L8) (hsp : sp < ns) (hnb : ns < 2147483648) (h171 : ((ud m H).1 17).2 sp 1 = nI (lst + 1)) (hlb : lst < 2147483646) (hou : ((ud m H).1 0).2 lst 0 = nI o) (ho34 : o ≤ 34) (htm : tmd o) (ho29 : ¬ o = 29) (hk7 : ((ud m H).2.2.1 158 7).2 (sp % 64) = nI sp) : mu_TI (mu_D (d + 21)) 365 [.inr (.inr (some 158)), .inl (nI sp)] H (fun x H1 => ((∃ st, SST o (INS Y KU f P od) ((SPD Y (GOS Y KU Xt f P od) (EVS Y KU f P od) (EGS (GOS Y KU Xt f P od) kN (fun f t => FS f t = true) (EVS Y KU f P od)) kN (fun f t => FS f t = true) KU f P od sa sN si) sp) st ∧ x = nI st) ∨ (x = -1 ∧ (∀ s, ¬ ((INS Y KU f P od) s ∧ sgz o ((SPD Y (GOS Y KU Xt f P od) (EVS Y KU f P od) (EGS (GOS Y KU Xt f P od) kN (fun f t => FS f t = true) (EVS Y KU f P od)) kN (fun f t => FS f t = true) KU f P od sa sN si) sp) s)))) ∧ H1 = H) := by
  have hTw := hU.tw.1
  obtain ⟨q, L, hL, hwL, hlk, hbk⟩ := hU.1.2.2.1.of (i := sp) (by omega) (Nat.le_of_lt hnb) hk7
  have hI := fun s hs => sts_iff (o := o) hU (s := s) hs (hbk s (by omega))
  refine (pr_start (d := d + 16) (T := pd f 0 P) h rfl hU.1.1.2.2.2.2.2.2.2 (by omega) h171 hlb hou ho34 htm ho29 hU.1.1.2.1.1.1.2 hU.tw.2 hlk (by omega) (by omega)).imp (fun x H1 y => ⟨?_, y.2⟩)
  rcases y.1 with ⟨s, s1, s2, s3, s4⟩ | ⟨s1, s2⟩
  · exact Or.inl ⟨s, ⟨(hI s s1).mp s2, fun t ht z => s3 t ht ((hI t (by omega)).mpr z)⟩, s4⟩
  · exact Or.inr ⟨s1, fun t z => s2 t z.1.1 ((hI t z.1.1).mpr z)⟩
/-- show, but for the search of a path -/
theorem crd_show (h : um m H) (hU : CRI (ud m H) m Y es P f od KU Xt ns sa sN si fb NN us S z p nf nm tm bs lv lc oid nw wa wn wi wk nb bo cl al ro Gr me kN FS L4 L8) (h4 : mu_r H 0 4 = some m) (h3 : ¬ mu_i H 0 3 = 0) (h12 : ¬ mu_i H 0 12 = 0) (hC21 : 2 * (((Y 13).1 + 2) * 4) + 4 ≤ C 21) (hC21b : C 21 ≤ 8388608) (hns : ((ud m H).1 17).1 = ns) (hnb : ns < 2147483648) (hsp : sp < ns) (hy : (Y 17).2 sp 0 = nI (sa sp) ∧ (Y 17).2 sp 1 = nI (sa sp + sN sp) ∧ (Y 17).2 sp 2 = nI (si sp)) (hS : SPQ Y es (NN - fb) C (sa sp) (sN sp) (si sp) 0) (hC26b : C 26 ≤ 8388608) (hN : sN sp = nn + 1) (hb : sa sp + nn + 1 ≤ (Y 0).1) (hou : (Y 0).2 (sa sp + nn) 0 = nI o) (ho34 : o ≤ 34) (htm : tmd o) (ho29 : ¬ o = 29) (hcs : ((¬ o = 28 ∧ ga = sa sp ∧ gN = nn) ∨ (o = 28 ∧ EUP Y (sa sp) nn wN ∧ ga = sa sp + wN ∧ ga + gN = sa sp + nn ∧ SPQ Y es (NN - fb) C (sa sp) wN (si sp) 1))) (hSg : SPQ Y es (NN - fb) C ga gN (si sp) 0)
    {PS : Nat → Nat → (Nat → Nat) → Option Nat → Prop} {PB : Nat → Prop} {B10 : Nat → mu_H → Prop}
    (hPS : ∀ st cn sh lpo, SST o (INS Y KU f P od) ((SPD Y (GOS Y KU Xt f P od) (EVS Y KU f P od) (EGS (GOS Y KU Xt f P od) kN (fun f t => FS f t = true) (EVS Y KU f P od)) kN (fun f t => FS f t = true) KU f P od sa sN si) sp) st → PS st cn sh lpo → (∀ j, j + 1 < cn → (GOS Y KU Xt f P od) (sh j) (sh (j + 1))) ∧ (∀ j, lpo = some j → j < cn ∧ (GOS Y KU Xt f P od) (sh (cn - 1)) (sh j)) ∧ ∀ j, j < cn → sh j < pd f 0 P)
    (t10 : ∀ st K, SST o (INS Y KU f P od) ((SPD Y (GOS Y KU Xt f P od) (EVS Y KU f P od) (EGS (GOS Y KU Xt f P od) kN (fun f t => FS f t = true) (EVS Y KU f P od)) kN (fun f t => FS f t = true) KU f P od sa sN si) sp) st → ((um m K ∧ ur m C H K) ∧ CRI (ud m K) m Y es P f od KU Xt ns sa sN si fb NN us S z p nf nm tm bs lv lc oid nw wa wn wi wk nb bo cl al ro Gr me kN FS L4 L8 ∧ ((ud m K).2.2.1 158 7).2 (sp % 64) = nI sp ∧ KPW (ud m H) (ud m K)) ∧ (∃ g0 g1, LSN (ud m K) 161 0 g0 256 ∧ LSN (ud m K) 161 1 g1 256) ∧ (∀ s, s < 64 * ((pd f 0 P + 63) / 64) → (bts (lgf (ud m K) 161 0) s = true ↔ (EVS Y KU f P od) s ∧ CTS Y (GOS Y KU Xt f P od) (EVS Y KU f P od) (EGS (GOS Y KU Xt f P od) kN (fun f t => FS f t = true) (EVS Y KU f P od)) kN (fun f t => FS f t = true) (lvq Y KU f P od (si sp)) ga gN 0 s)) ∧ (o = 28 → ∀ s, s < 64 * ((pd f 0 P + 63) / 64) → (bts (lgf (ud m K) 161 1) s = true ↔ (EVS Y KU f P od) s ∧ CTS Y (GOS Y KU Xt f P od) (EVS Y KU f P od) (EGS (GOS Y KU Xt f P od) kN (fun f t => FS f t = true) (EVS Y KU f P od)) kN (fun f t => FS f t = true) (lvq Y KU f P od (si sp)) (sa sp) wN 0 s)) → mu_TV (mu_D (d + 21)) 368 [.inr (.inr (some 158)), .inl (nI sp), .inl (nI st)] K (B10 st))
    (b10 : ∀ st K, B10 st K → gi K)
    (t11 : ∀ st K, SST o (INS Y KU f P od) ((SPD Y (GOS Y KU Xt f P od) (EVS Y KU f P od) (EGS (GOS Y KU Xt f P od) kN (fun f t => FS f t = true) (EVS Y KU f P od)) kN (fun f t => FS f t = true) KU f P od sa sN si) sp) st → B10 st K → mu_TV (mu_D (d + 21)) 376 [.inr (.inr (some 0))] K (fun K => (um m K ∧ ur m C H K) ∧ CRI (ud m K) m Y es P f od KU Xt ns sa sN si fb NN us S z p nf nm tm bs lv lc oid nw wa wn wi wk nb bo cl al ro Gr me kN FS L4 L8 ∧ ((ud m K).2.1 158 13 = (ud m H).2.1 158 13 ∧ (ud m K).2.1 158 11 = (ud m H).2.1 158 11 ∧ (ud m K).2.1 158 12 = (ud m H).2.1 158 12 ∧ (ud m K).2.2.1 158 9 = (ud m H).2.2.1 158 9) ∧ ((∃ cn sh lpo, PS st cn sh lpo ∧ TOLD (ud m K) cn sh lpo) ∨ (PB st ∧ ∃ many, 2000 < many ∧ many ≤ 20000 ∧ (ud m K).2.1 158 10 = nI many)))) :
    mu_MT (mu_D (d + 22)) 72 [.inr (.inr (some 0)), .inl (nI sp)] H (fun r => ∃ K, ((um m K ∧ ur m C H K) ∧ CRI (ud m K) m Y es P f od KU Xt ns sa sN si fb NN us S z p nf nm tm bs lv lc oid nw wa wn wi wk nb bo cl al ro Gr me kN FS L4 L8 ∧ (ud m K).2.1 158 13 = (ud m H).2.1 158 13) ∧ ((∃ st, SST o (INS Y KU f P od) ((SPD Y (GOS Y KU Xt f P od) (EVS Y KU f P od) (EGS (GOS Y KU Xt f P od) kN (fun f t => FS f t = true) (EVS Y KU f P od)) kN (fun f t => FS f t = true) KU f P od sa sN si) sp) st ∧ ((∃ cn sh lpo, PS st cn sh lpo ∧ (1 ≤ cn ∧ cn ≤ 2000) ∧ SHN (ud m K) cn sh lpo ∧ r = (.inl (some (.inl (nI cn))), K)) ∨ (((∃ cn sh lpo, PS st cn sh lpo ∧ 2000 < cn) ∨ PB st) ∧ ((ud m K).2.1 158 13 = (ud m H).2.1 158 13 ∧ (ud m K).2.1 158 11 = (ud m H).2.1 158 11 ∧ (ud m K).2.1 158 12 = (ud m H).2.1 158 12 ∧ (ud m K).2.2.1 158 9 = (ud m H).2.2.1 158 9) ∧ r = (.inr 3, mu_ex K)))) ∨ ((∀ s, ¬ ((INS Y KU f P od) s ∧ sgz o ((SPD Y (GOS Y KU Xt f P od) (EVS Y KU f P od) (EGS (GOS Y KU Xt f P od) kN (fun f t => FS f t = true) (EVS Y KU f P od)) kN (fun f t => FS f t = true) KU f P od sa sN si) sp) s)) ∧ ((ud m K).2.1 158 13 = (ud m H).2.1 158 13 ∧ (ud m K).2.1 158 11 = (ud m H).2.1 158 11 ∧ (ud m K).2.1 158 12 = (ud m H).2.1 158 12 ∧ (ud m K).2.2.1 158 9 = (ud m H).2.2.1 158 9) ∧ r = (.inr 2, mu_ex K)))) := by
  have hS' := hS
  obtain ⟨rs, cst, k1, -⟩ := hS'
  have hYb := k1.2.1.1
  have hsb : sp < 2147483648 := by omega
  have f17 : ∀ V, CRI V m Y es P f od KU Xt ns sa sN si fb NN us S z p nf nm tm bs lv lc oid nw wa wn wi wk nb bo cl al ro Gr me kN FS L4 L8 → (V.1 17).2 sp 0 = nI (sa sp) ∧ (V.1 17).2 sp 1 = nI (sa sp + nn + 1) ∧ (V.1 17).2 sp 2 = nI (si sp) ∧ (V.1 0).2 (sa sp + nn) 0 = nI o := fun V hV => by
    have hj := (RDX.rsk hV.1.1.1).jv.2.2.2.2.2
    exact ⟨(hj sp 0 (by decide)).trans hy.1, (hj sp 1 (by decide)).trans (by rw [hy.2.1, hN]; rfl), (hj sp 2 (by decide)).trans hy.2.2, by rw [hV.1.1.2.2.2.2.2.2.1]; exact hou⟩
  refine pv_showS (A1 := fun K => K = H) (A2 := fun K => (um m K ∧ ur m C H K) ∧ ud m K = ud m H) (A3 := fun K => (um m K ∧ ur m C H K) ∧ ((((ud m H).2.2.1 158 7).2 (sp % 64) = nI sp ∧ ud m K = ud m H) ∨ ud m K = upI (sekU (ud m H) (((ud m H).1 17).2 sp 0) (((ud m H).1 17).2 sp 1) (((ud m H).1 17).2 sp 2) 0) 158 15 (nI sp))) (A4 := fun K => (um m K ∧ ur m C H K) ∧ CRI (ud m K) m Y es P f od KU Xt ns sa sN si fb NN us S z p nf nm tm bs lv lc oid nw wa wn wi wk nb bo cl al ro Gr me kN FS L4 L8 ∧ ((ud m K).2.2.1 158 7).2 (sp % 64) = nI sp ∧ KPW (ud m H) (ud m K)) (A5 := fun x K => ((um m K ∧ ur m C H K) ∧ CRI (ud m K) m Y es P f od KU Xt ns sa sN si fb NN us S z p nf nm tm bs lv lc oid nw wa wn wi wk nb bo cl al ro Gr me kN FS L4 L8 ∧ ((ud m K).2.2.1 158 7).2 (sp % 64) = nI sp ∧ KPW (ud m H) (ud m K)) ∧ ((∃ st, SST o (INS Y KU f P od) ((SPD Y (GOS Y KU Xt f P od) (EVS Y KU f P od) (EGS (GOS Y KU Xt f P od) kN (fun f t => FS f t = true) (EVS Y KU f P od)) kN (fun f t => FS f t = true) KU f P od sa sN si) sp) st ∧ x = nI st) ∨ (x = -1 ∧ (∀ s, ¬ ((INS Y KU f P od) s ∧ sgz o ((SPD Y (GOS Y KU Xt f P od) (EVS Y KU f P od) (EGS (GOS Y KU Xt f P od) kN (fun f t => FS f t = true) (EVS Y KU f P od)) kN (fun f t => FS f t = true) KU f P od sa sN si) sp) s))))) (A6 := fun x K => (∃ st, SST o (INS Y KU f P od) ((SPD Y (GOS Y KU Xt f P od) (EVS Y KU f P od) (EGS (GOS Y KU Xt f P od) kN (fun f t => FS f t = true) (EVS Y KU f P od)) kN (fun f t => FS f t = true) KU f P od sa sN si) sp) st ∧ x = nI st) ∧ ∃ K0, ((um m K0 ∧ ur m C H K0) ∧ CRI (ud m K0) m Y es P f od KU Xt ns sa sN si fb NN us S z p nf nm tm bs lv lc oid nw wa wn wi wk nb bo cl al ro Gr me kN FS L4 L8 ∧ ((ud m K0).2.2.1 158 7).2 (sp % 64) = nI sp ∧ KPW (ud m H) (ud m K0)) ∧ (um m K ∧ ur m C H K) ∧ ud m K = sekU (ud m K0) (nI ga) (nI (ga + gN)) (nI (si sp)) (nI 0)) (A7 := fun x K => (∃ st, SST o (INS Y KU f P od) ((SPD Y (GOS Y KU Xt f P od) (EVS Y KU f P od) (EGS (GOS Y KU Xt f P od) kN (fun f t => FS f t = true) (EVS Y KU f P od)) kN (fun f t => FS f t = true) KU f P od sa sN si) sp) st ∧ x = nI st) ∧ ((um m K ∧ ur m C H K) ∧ CRI (ud m K) m Y es P f od KU Xt ns sa sN si fb NN us S z p nf nm tm bs lv lc oid nw wa wn wi wk nb bo cl al ro Gr me kN FS L4 L8 ∧ ((ud m K).2.2.1 158 7).2 (sp % 64) = nI sp ∧ KPW (ud m H) (ud m K)) ∧ (∃ g0, LSN (ud m K) 161 0 g0 256) ∧ (∀ s, s < 64 * ((pd f 0 P + 63) / 64) → (bts (lgf (ud m K) 161 0) s = true ↔ (EVS Y KU f P od) s ∧ CTS Y (GOS Y KU Xt f P od) (EVS Y KU f P od) (EGS (GOS Y KU Xt f P od) kN (fun f t => FS f t = true) (EVS Y KU f P od)) kN (fun f t => FS f t = true) (lvq Y KU f P od (si sp)) ga gN 0 s))) (A8 := fun x K => (∃ st, SST o (INS Y KU f P od) ((SPD Y (GOS Y KU Xt f P od) (EVS Y KU f P od) (EGS (GOS Y KU Xt f P od) kN (fun f t => FS f t = true) (EVS Y KU f P od)) kN (fun f t => FS f t = true) KU f P od sa sN si) sp) st ∧ x = nI st) ∧ ((¬ o = 28 ∧ ((um m K ∧ ur m C H K) ∧ CRI (ud m K) m Y es P f od KU Xt ns sa sN si fb NN us S z p nf nm tm bs lv lc oid nw wa wn wi wk nb bo cl al ro Gr me kN FS L4 L8 ∧ ((ud m K).2.2.1 158 7).2 (sp % 64) = nI sp ∧ KPW (ud m H) (ud m K)) ∧ (∃ g0 g1, LSN (ud m K) 161 0 g0 256 ∧ LSN (ud m K) 161 1 g1 256) ∧ (∀ s, s < 64 * ((pd f 0 P + 63) / 64) → (bts (lgf (ud m K) 161 0) s = true ↔ (EVS Y KU f P od) s ∧ CTS Y (GOS Y KU Xt f P od) (EVS Y KU f P od) (EGS (GOS Y KU Xt f P od) kN (fun f t => FS f t = true) (EVS Y KU f P od)) kN (fun f t => FS f t = true) (lvq Y KU f P od (si sp)) ga gN 0 s)) ∧ (o = 28 → ∀ s, s < 64 * ((pd f 0 P + 63) / 64) → (bts (lgf (ud m K) 161 1) s = true ↔ (EVS Y KU f P od) s ∧ CTS Y (GOS Y KU Xt f P od) (EVS Y KU f P od) (EGS (GOS Y KU Xt f P od) kN (fun f t => FS f t = true) (EVS Y KU f P od)) kN (fun f t => FS f t = true) (lvq Y KU f P od (si sp)) (sa sp) wN 0 s))) ∨ (o = 28 ∧ ∃ K0, (((um m K0 ∧ ur m C H K0) ∧ CRI (ud m K0) m Y es P f od KU Xt ns sa sN si fb NN us S z p nf nm tm bs lv lc oid nw wa wn wi wk nb bo cl al ro Gr me kN FS L4 L8 ∧ ((ud m K0).2.2.1 158 7).2 (sp % 64) = nI sp ∧ KPW (ud m H) (ud m K0)) ∧ (∃ g0, LSN (ud m K0) 161 0 g0 256) ∧ (∀ s, s < 64 * ((pd f 0 P + 63) / 64) → (bts (lgf (ud m K0) 161 0) s = true ↔ (EVS Y KU f P od) s ∧ CTS Y (GOS Y KU Xt f P od) (EVS Y KU f P od) (EGS (GOS Y KU Xt f P od) kN (fun f t => FS f t = true) (EVS Y KU f P od)) kN (fun f t => FS f t = true) (lvq Y KU f P od (si sp)) ga gN 0 s))) ∧ (um m K ∧ ur m C H K) ∧ ud m K = sekU (ud m K0) (nI (sa sp)) (nI (sa sp + wN)) (nI (si sp)) (nI 1)))) (A9 := fun x K => (∃ st, SST o (INS Y KU f P od) ((SPD Y (GOS Y KU Xt f P od) (EVS Y KU f P od) (EGS (GOS Y KU Xt f P od) kN (fun f t => FS f t = true) (EVS Y KU f P od)) kN (fun f t => FS f t = true) KU f P od sa sN si) sp) st ∧ x = nI st) ∧ ((um m K ∧ ur m C H K) ∧ CRI (ud m K) m Y es P f od KU Xt ns sa sN si fb NN us S z p nf nm tm bs lv lc oid nw wa wn wi wk nb bo cl al ro Gr me kN FS L4 L8 ∧ ((ud m K).2.2.1 158 7).2 (sp % 64) = nI sp ∧ KPW (ud m H) (ud m K)) ∧ (∃ g0 g1, LSN (ud m K) 161 0 g0 256 ∧ LSN (ud m K) 161 1 g1 256) ∧ (∀ s, s < 64 * ((pd f 0 P + 63) / 64) → (bts (lgf (ud m K) 161 0) s = true ↔ (EVS Y KU f P od) s ∧ CTS Y (GOS Y KU Xt f P od) (EVS Y KU f P od) (EGS (GOS Y KU Xt f P od) kN (fun f t => FS f t = true) (EVS Y KU f P od)) kN (fun f t => FS f t = true) (lvq Y KU f P od (si sp)) ga gN 0 s)) ∧ (o = 28 → ∀ s, s < 64 * ((pd f 0 P + 63) / 64) → (bts (lgf (ud m K) 161 1) s = true ↔ (EVS Y KU f P od) s ∧ CTS Y (GOS Y KU Xt f P od) (EVS Y KU f P od) (EGS (GOS Y KU Xt f P od) kN (fun f t => FS f t = true) (EVS Y KU f P od)) kN (fun f t => FS f t = true) (lvq Y KU f P od (si sp)) (sa sp) wN 0 s))) (A10 := fun x K => ∃ st, (SST o (INS Y KU f P od) ((SPD Y (GOS Y KU Xt f P od) (EVS Y KU f P od) (EGS (GOS Y KU Xt f P od) kN (fun f t => FS f t = true) (EVS Y KU f P od)) kN (fun f t => FS f t = true) KU f P od sa sN si) sp) st ∧ x = nI st) ∧ B10 st K) (A11 := fun x K => ∃ st, (SST o (INS Y KU f P od) ((SPD Y (GOS Y KU Xt f P od) (EVS Y KU f P od) (EGS (GOS Y KU Xt f P od) kN (fun f t => FS f t = true) (EVS Y KU f P od)) kN (fun f t => FS f t = true) KU f P od sa sN si) sp) st ∧ x = nI st) ∧ (um m K ∧ ur m C H K) ∧ CRI (ud m K) m Y es P f od KU Xt ns sa sN si fb NN us S z p nf nm tm bs lv lc oid nw wa wn wi wk nb bo cl al ro Gr me kN FS L4 L8 ∧ ((ud m K).2.1 158 13 = (ud m H).2.1 158 13 ∧ (ud m K).2.1 158 11 = (ud m H).2.1 158 11 ∧ (ud m K).2.1 158 12 = (ud m H).2.1 158 12 ∧ (ud m K).2.2.1 158 9 = (ud m H).2.2.1 158 9) ∧ ((∃ cn sh lpo, PS st cn sh lpo ∧ TOLD (ud m K) cn sh lpo) ∨ (PB st ∧ ∃ many, 2000 < many ∧ many ≤ 20000 ∧ (ud m K).2.1 158 10 = nI many))) (A12 := fun x y K => ∃ st, SST o (INS Y KU f P od) ((SPD Y (GOS Y KU Xt f P od) (EVS Y KU f P od) (EGS (GOS Y KU Xt f P od) kN (fun f t => FS f t = true) (EVS Y KU f P od)) kN (fun f t => FS f t = true) KU f P od sa sN si) sp) st ∧ ((∃ cn sh lpo, PS st cn sh lpo ∧ (1 ≤ cn ∧ cn ≤ 2000) ∧ y = nI cn ∧ (um m K ∧ ur m C H K) ∧ ∃ K0, (um m K0 ∧ ur m C H K0) ∧ CRI (ud m K0) m Y es P f od KU Xt ns sa sN si fb NN us S z p nf nm tm bs lv lc oid nw wa wn wi wk nb bo cl al ro Gr me kN FS L4 L8 ∧ (ud m K0).2.1 158 13 = (ud m H).2.1 158 13 ∧ uq FDSP (ud m K0) (ud m K) ∧ (ud m K).2.2.2.2 = (ud m K0).2.2.2.2 ∧ (ud m K).2.2.1 147 10 = (ud m K0).2.2.1 147 10 ∧ SHN (ud m K) cn sh lpo ∧ ((ud m K).2.1 147 14 = 6 ∧ (ud m K).2.1 147 15 = nI (ro (sh 0)) ∧ (ud m K).2.1 158 16 = nI 0 ∧ (ud m K).2.1 158 14 = 6 ∧ (ud m K).2.1 158 13 = (ud m K0).2.1 158 13)) ∨ (((∃ cn sh lpo, PS st cn sh lpo ∧ 2000 < cn) ∨ PB st) ∧ (∃ many, 2000 < many ∧ many ≤ 20000 ∧ y = nI many) ∧ (um m K ∧ ur m C H K) ∧ CRI (ud m K) m Y es P f od KU Xt ns sa sN si fb NN us S z p nf nm tm bs lv lc oid nw wa wn wi wk nb bo cl al ro Gr me kN FS L4 L8 ∧ ((ud m K).2.1 158 13 = (ud m H).2.1 158 13 ∧ (ud m K).2.1 158 11 = (ud m H).2.1 158 11 ∧ (ud m K).2.1 158 12 = (ud m H).2.1 158 12 ∧ (ud m K).2.2.1 158 9 = (ud m H).2.2.1 158 9)))) (A13 := fun x y K => ∃ st, SST o (INS Y KU f P od) ((SPD Y (GOS Y KU Xt f P od) (EVS Y KU f P od) (EGS (GOS Y KU Xt f P od) kN (fun f t => FS f t = true) (EVS Y KU f P od)) kN (fun f t => FS f t = true) KU f P od sa sN si) sp) st ∧ ((∃ cn sh lpo, PS st cn sh lpo ∧ (1 ≤ cn ∧ cn ≤ 2000) ∧ y = nI cn ∧ (um m K ∧ ur m C H K) ∧ CRI (ud m K) m Y es P f od KU Xt ns sa sN si fb NN us S z p nf nm tm bs lv lc oid nw wa wn wi wk nb bo cl al ro Gr me kN FS L4 L8 ∧ (ud m K).2.1 158 13 = (ud m H).2.1 158 13 ∧ SHN (ud m K) cn sh lpo) ∨ (((∃ cn sh lpo, PS st cn sh lpo ∧ 2000 < cn) ∨ PB st) ∧ (∃ many, 2000 < many ∧ many ≤ 20000 ∧ y = nI many) ∧ (um m K ∧ ur m C H K) ∧ CRI (ud m K) m Y es P f od KU Xt ns sa sN si fb NN us S z p nf nm tm bs lv lc oid nw wa wn wi wk nb bo cl al ro Gr me kN FS L4 L8 ∧ ((ud m K).2.1 158 13 = (ud m H).2.1 158 13 ∧ (ud m K).2.1 158 11 = (ud m H).2.1 158 11 ∧ (ud m K).2.1 158 12 = (ud m H).2.1 158 12 ∧ (ud m K).2.2.1 158 9 = (ud m H).2.2.1 158 9)))) h.1.1 h.2 h4 (nI sp) (fun _ _ _ => crd_rdy h h12) (fun K y => by rw [y]; exact h.1.1) (fun K y _ => by rw [y]; exact crd_idle h hU) (fun K y => y.1.1.1.1) (fun K y _ => crd_asking hU hsp hnb y) (fun K y => y.1.1.1.1) (fun K y _ => ?_) (fun K y => y.1.1.1.1) (fun K y _ => ?_) (fun x K y => y.1.1.1.1.1) (fun x K y _ hx => ?_) (fun x K y => by obtain ⟨-, K0, -, yu, -⟩ := y; exact yu.1.1.1) (fun x K y _ hx => ?_) (fun x K y => y.2.1.1.1.1.1) (fun x K y _ hx => ?_) (fun x K y => by rcases y.2 with y | ⟨-, K0, -, yu, -⟩; (exact y.2.1.1.1.1.1); (exact yu.1.1.1)) (fun x K y _ hx => ?_) (fun x K y => y.2.1.1.1.1.1) (fun x K y _ hx => ?_) (fun x K y => by obtain ⟨st, -, yb⟩ := y; exact b10 st K yb) (fun x K y _ hx => ?_) (fun x K y => by obtain ⟨st, -, yb⟩ := y; exact yb.1.1.1.1) (fun x K y _ hx => ?_) (fun x z K y => by obtain ⟨st, -, ⟨cn, sh, lpo, -, -, -, yu, -⟩ | ⟨-, -, yu, -⟩⟩ := y; (exact yu.1.1.1); (exact yu.1.1.1)) (fun x z K y _ hx => ?_) (fun x z K y => by obtain ⟨st, -, ⟨cn, sh, lpo, -, -, -, yu, -⟩ | ⟨-, -, yu, -⟩⟩ := y; (exact yu.1.1.1); (exact yu.1.1.1)) (fun _ y => absurd y h3) (fun x K y _ hx => ?_) (fun x z K y _ _ hz => ?_) (fun x z K y _ _ hz => ?_) (fun y => absurd y (nI_pos (by omega))) (fun _ _ y => absurd (by rw [crd_size h hns]; exact (nI_ltI (by omega) hnb).mpr hsp) y)
  · refine (crd_asked (d := d) (C := C) hU hsp (Nat.le_of_lt hnb) hy hS hC21 hC21b hC26b y.1.1 y.2).imp (fun K1 w => ?_)
    exact ⟨⟨w.1.1, y.1.2.trans w.1.2⟩, w.2⟩
  · have g := f17 _ y.2.1
    refine (crd_startR (d := d) (lst := sa sp + nn) y.1.1 y.2.1 hsp hnb g.2.1 (by omega) g.2.2.2 ho34 htm ho29 y.2.2.1).imp (fun x K1 w => ?_)
    rw [w.2]
    exact ⟨y, w.1⟩
  · obtain ⟨y1, y2⟩ := y
    have hst := y2.resolve_right (fun z => hx (by rw [z.1]; decide))
    have g := f17 _ y1.2.1
    rcases hcs with ⟨c1, c2, c3⟩ | ⟨c1, c2, c3, c4, c5⟩
    · refine (pr_goal (d := d + 16) (C := C) y1.1.1 rfl y1.2.1.1.1.2.2.2.2.2.2.2 hsb g.2.1 (by omega) g.2.2.2 ho34 g.1 g.2.2.1 c1).imp (fun K1 w => ?_)
      exact ⟨hst, K, y1, ⟨w.1, y1.1.2.trans w.2.1⟩, by rw [w.2.2, c2, c3]; rfl⟩
    · refine (pr_goalU (d := d + 16) (C := C) (Y := Y) (n := nn) (j := wN) y1.1.1 rfl y1.2.1.1.1.2.2.2.2.2.2.2 hsb g.2.1 (by omega) g.2.2.2 ho34 g.1 g.2.2.1 y1.2.1.1.1.2.2.2.2.2.2.1 k1.2.1.2.1 (fun q hq => k1.pln q (by omega)) (by omega) (by omega) c2.1 c2.2.1 c2.2.2.1 c2.2.2.2 rfl c1).imp (fun K1 w => ?_)
      exact ⟨hst, K, y1, ⟨w.1, y1.1.2.trans w.2.1⟩, by rw [w.2.2, c4, c3]; rfl⟩
  · obtain ⟨hst, K0, y1, y2, y3⟩ := y
    refine (crd_sought (d := d) (C := C) y1.2.1 hSg hC21 hC21b hC26b y2.1 y3).imp (fun K1 w => ?_)
    obtain ⟨w1, w2, ⟨q, w3, w4⟩, -, w6, w7⟩ := w
    exact ⟨hst, ⟨⟨w1.1, y2.2.trans w1.2⟩, w2, by rw [w7]; exact y1.2.2.1, y1.2.2.2.trans w6⟩, ⟨q, w3⟩, w4⟩
  · obtain ⟨hst, y1, ⟨g0, y2⟩, y3⟩ := y
    have g := f17 _ y1.2.1
    rcases hcs with ⟨c1, c2, c3⟩ | ⟨c1, c2, c3, c4, c5⟩
    · refine (crd_wayR (d := d) (C := C) (lst := sa sp + nn) y1.1.1 y1.2.1 hsb g.2.1 (by omega) g.2.2.2 ho34 c1 y2).imp (fun K1 w => ?_)
      obtain ⟨w1, w2, ⟨w3, w3b⟩, ⟨g1, w4⟩, w5, w6⟩ := w
      exact ⟨hst, Or.inl ⟨c1, ⟨⟨w1.1, y1.1.2.trans w1.2⟩, w2, by rw [w5]; exact y1.2.2.1, y1.2.2.2.trans w6⟩, ⟨g0, g1, w3, w4⟩, by rw [w3b]; exact y3, fun z => absurd z c1⟩⟩
    · refine (pr_wayU (d := d + 16) (C := C) (Y := Y) (n := nn) (j := wN) y1.1.1 rfl y1.2.1.1.1.2.2.2.2.2.2.2 hsb g.2.1 (by omega) g.2.2.2 ho34 g.1 g.2.2.1 y1.2.1.1.1.2.2.2.2.2.2.1 k1.2.1.2.1 (fun q hq => k1.pln q (by omega)) (by omega) (by omega) c2.1 c2.2.1 c2.2.2.1 c2.2.2.2 rfl c1).imp (fun K1 w => ?_)
      exact ⟨hst, Or.inr ⟨c1, K, ⟨y1, ⟨g0, y2⟩, y3⟩, ⟨w.1, y1.1.2.trans w.2.1⟩, by rw [w.2.2]; rfl⟩⟩
  · obtain ⟨hst, y⟩ := y
    rcases y with ⟨-, y⟩ | ⟨c0, K0, ⟨y1, ⟨g0, y2⟩, y3⟩, y4, y5⟩
    · refine (crd_idle (d := d) (C := C) y.1.1.1 y.1.2.1).imp (fun K1 w => ?_)
      have e := w.2
      refine ⟨hst, ⟨⟨w.1.1, y.1.1.2.trans w.1.2⟩, ?_⟩, ?_⟩
      · rw [e]; exact y.1.2
      · rw [e]; exact y.2
    · obtain ⟨-, -, -, -, c5⟩ := hcs.resolve_left (fun z => z.1 c0)
      refine (crd_sought (d := d) (C := C) y1.2.1 c5 hC21 hC21b hC26b y4.1 y5).imp (fun K1 w => ?_)
      obtain ⟨w1, w2, ⟨q, w3, w4⟩, w5, w6, w7⟩ := w
      have e0 := w5 0 (by decide)
      obtain ⟨q2, w8⟩ := (w2.1.1.2.2.2.1.1 0 (by decide)).resolve_left (fun z => by rw [e0] at z; obtain ⟨v, -⟩ | ⟨-, -, -, fx, v⟩ := y2; (exact absurd v (by decide)); (rw [z] at v; cases v))
      refine ⟨hst, ⟨⟨w1.1, y4.2.trans w1.2⟩, w2, by rw [w7]; exact y1.2.2.1, y1.2.2.2.trans w6⟩, ⟨q2, q, w8, w3⟩, ?_, fun _ => w4⟩
      rw [show lgf (ud m K1) 161 0 = lgf (ud m K0) 161 0 from lgf_pl (by decide) e0]
      exact y3
  · obtain ⟨⟨st, hst, rfl⟩, y⟩ := y
    exact (t10 st K hst y).imp (fun K1 w => ⟨st, ⟨hst, rfl⟩, w⟩)
  · obtain ⟨st, ⟨hst, rfl⟩, y⟩ := y
    exact (t11 st K hst y).imp (fun K1 w => ⟨st, ⟨hst, rfl⟩, w⟩)
  · obtain ⟨st, ⟨hst, rfl⟩, y1, y2, y3, y⟩ := y
    rcases y with ⟨cn, sh, lpo, p1, p2⟩ | ⟨p1, many, p2, p3, p4⟩
    · by_cases c : cn ≤ 2000
      · have hp := hPS st cn sh lpo hst p1
        refine (crd_display (d := d) (C := C) y2 y1.1 p2 c (hp.2.2 0 (by have := p2.1.2.1; omega))).imp (fun x K1 w => ?_)
        obtain ⟨w1, w2, w3⟩ := w
        exact ⟨st, hst, Or.inl ⟨cn, sh, lpo, p1, ⟨p2.1.2.1, c⟩, w1, ⟨w2.1, y1.2.trans w2.2⟩, K, y1, y2, y3.1, w3⟩⟩
      · refine (pr_displayM (d := d + 19) y1.1 rfl p2.1.1 (by omega) (by have := p2.1.2.2; omega)).imp (fun x K1 w => ?_)
        rw [w.2]
        exact ⟨st, hst, Or.inr ⟨Or.inl ⟨cn, sh, lpo, p1, by omega⟩, ⟨cn, by omega, p2.1.2.2, w.1⟩, y1, y2, y3⟩⟩
    · refine (pr_displayM (d := d + 19) y1.1 rfl p4 p2 (by omega)).imp (fun x K1 w => ?_)
      rw [w.2]
      exact ⟨st, hst, Or.inr ⟨Or.inr p1, ⟨many, p2, p3, w.1⟩, y1, y2, y3⟩⟩
  · obtain ⟨st, hst, y⟩ := y
    rcases y with ⟨cn, sh, lpo, p1, p2, p3, p4, K0, q1, q2, q3, q4, q5, q6, q7, q8⟩ | ⟨p1, p2, p3, p4, p5⟩
    · have hp := hPS st cn sh lpo hst p1
      refine (crd_watch (d := d) (C := C) q2 p4.1 hC21 hC21b p2.2 p2.1 hp.1 hp.2.1 hp.2.2 q4 q5 q6 q7 q8).imp (fun K1 w => ?_)
      obtain ⟨w1, -, w3, w4, w5⟩ := w
      exact ⟨st, hst, Or.inl ⟨cn, sh, lpo, p1, p2, p3, ⟨w1.1, p4.2.trans w1.2⟩, w3, w5.trans q3, w4⟩⟩
    · refine (crd_idle (d := d) (C := C) p3.1 p4).imp (fun K1 w => ?_)
      have e := w.2
      refine ⟨st, hst, Or.inr ⟨p1, p2, ⟨w.1.1, p3.2.trans w.1.2⟩, ?_⟩⟩
      rw [e]
      exact ⟨p4, p5⟩
  · obtain ⟨y1, y2⟩ := y
    have y3 := y2.resolve_left (fun ⟨st, s1, s2⟩ => by rw [s2] at hx; exact nI_pos (by have := s1.1.1.1; have := hU.tw.2; omega) hx)
    have w := y1.2.2.2
    exact ⟨K, ⟨y1.1, y1.2.1, w.2.1 158 13 rfl⟩, Or.inr ⟨y3.2, ⟨w.2.1 158 13 rfl, w.2.1 158 11 rfl, w.2.1 158 12 rfl, w.2.2.1 158 9 rfl⟩, rfl⟩⟩
  · obtain ⟨st, hst, ⟨cn, sh, lpo, p1, p2, p3, p4, p5, p6, p7⟩ | ⟨p1, ⟨many, q1, q2, q3⟩, p3, p4, p5⟩⟩ := y
    · rw [p3] at hz
      exact absurd ((nI_ltI (a := 2000) (by decide) (by omega)).mp hz) (by omega)
    · exact ⟨K, ⟨p3, p4, p5.1⟩, Or.inl ⟨st, hst, Or.inr ⟨p1, p5, rfl⟩⟩⟩
  · obtain ⟨st, hst, ⟨cn, sh, lpo, p1, p2, p3, p4, p5, p6, p7⟩ | ⟨p1, ⟨many, q1, q2, q3⟩, p3, p4, p5⟩⟩ := y
    · exact ⟨K, ⟨p4, p5, p6⟩, Or.inl ⟨st, hst, Or.inl ⟨cn, sh, lpo, p1, p2, p7, by rw [p3]⟩⟩⟩
    · exact absurd (by rw [q3]; exact (nI_ltI (a := 2000) (by decide) (by omega)).mpr q1) hz
end ReadyShow
