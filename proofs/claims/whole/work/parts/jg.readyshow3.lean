/-! SHOW: a part of a code as a code of its own; E [ ]; SPECS that are not shown -/
section SubSpec
variable {Y : Ts} {a j n N k s nf : Nat} {G Fs : Nat → Nat → Prop} {E Fr : Nat → Prop} {lv : Nat → Nat → Int32}
theorem plen_tmd {o x : Nat} (h : tmd o) : 1 ≤ plen o x := plen_1 (by rcases h with h | h | h <;> omega) (fun y => by rcases h with h | h | h <;> omega)
theorem SBC.bs (h : SBC Y a j N) (hn : j + n < N) : bse Y a (j + n) = bse Y (a + j) n + tpz Y a j := by
  have h1 := h.tp n (by omega)
  have h2 := h.pl hn
  unfold bse
  rw [Nat.add_assoc a j n] at h2 ⊢
  omega
theorem SBC.tm (h : SBC Y a j N) : ∀ n, j + n ≤ N → ∀ k, k < tpz Y (a + j) n → (TMZ Y (a + j) n k ↔ TMZ Y a (j + n) (k + tpz Y a j))
  | 0, _, k, hk => absurd hk (Nat.not_lt_zero k)
  | n + 1, hn, k, hk => by
    have ih := SBC.tm h n (by omega)
    have hb := h.bs (n := n) (by omega)
    have ht := h.tp n (by omega)
    have e1 : tpz Y (a + j) (n + 1) = bse Y (a + j) n + 1 := rfl
    have e2 : bse Y (a + j) n ≤ tpz Y (a + j) n := Nat.sub_le _ _
    show (if k = bse Y (a + j) n then (tmd (oc Y (a + j + n)) ∨ ∃ q, bse Y (a + j) n ≤ q ∧ q < tpz Y (a + j) n ∧ TMZ Y (a + j) n q) else TMZ Y (a + j) n k) ↔ (if k + tpz Y a j = bse Y a (j + n) then (tmd (oc Y (a + (j + n))) ∨ ∃ q, bse Y a (j + n) ≤ q ∧ q < tpz Y a (j + n) ∧ TMZ Y a (j + n) q) else TMZ Y a (j + n) (k + tpz Y a j))
    by_cases c : k = bse Y (a + j) n
    · rw [if_pos c, if_pos (show k + tpz Y a j = bse Y a (j + n) by omega), Nat.add_assoc a j n]
      refine or_congr Iff.rfl ⟨fun ⟨q, q1, q2, q3⟩ => ⟨q + tpz Y a j, by omega, by omega, (ih q q2).mp q3⟩, fun ⟨q, q1, q2, q3⟩ => ⟨q - tpz Y a j, by omega, by omega, (ih (q - tpz Y a j) (by omega)).mpr ?_⟩⟩
      rw [Nat.sub_add_cancel (by omega)]
      exact q3
    · rw [if_neg c, if_neg (show ¬ k + tpz Y a j = bse Y a (j + n) by omega)]
      exact ih k (by omega)
theorem SBC.ct (h : SBC Y a j N) (hE : ∀ n, n < N → oc Y (a + n) < 32) : ∀ n, j + n ≤ N → ∀ k, k < tpz Y (a + j) n → ∀ s, (CTS Y G E Fr nf Fs lv (a + j) n k s ↔ CTS Y G E Fr nf Fs lv a (j + n) (k + tpz Y a j) s)
  | 0, _, k, hk, _ => absurd hk (Nat.not_lt_zero k)
  | n + 1, hn, k, hk, s => by
    have ih := SBC.ct h hE n (by omega)
    have hb := h.bs (n := n) (by omega)
    have ht := h.tp n (by omega)
    have ht1 := h.tp (n + 1) (by omega)
    have hpl := h.pl (n := n) (by omega)
    have e1 : tpz Y (a + j) (n + 1) = bse Y (a + j) n + 1 := rfl
    have e2 : bse Y (a + j) n = tpz Y (a + j) n - plen (oc Y (a + j + n)) (oa Y (a + j + n)) := rfl
    have htm := SBC.tm h (n + 1) hn k hk
    by_cases c : k = bse Y (a + j) n
    · have hbk : k + tpz Y a j = bse Y a (j + n) := by omega
      by_cases t : TMZ Y (a + j) (n + 1) k
      · have t2 := htm.mp t
        have hp : bse Y (a + j) n < tpz Y (a + j) n := by
          rw [c] at t
          rcases tmz_new.mp t with y | ⟨q, q1, q2, -⟩
          · have := plen_tmd (x := oa Y (a + j + n)) y
            omega
          · omega
        have x1 : CTS Y G E Fr nf Fs lv (a + j) (n + 1) k s ↔ ctl G E Fr nf Fs (oc Y (a + j + n)) (CTS Y G E Fr nf Fs lv (a + j) n (bse Y (a + j) n)) (CTS Y G E Fr nf Fs lv (a + j) n (tpz Y (a + j) n - 1)) s := by
          rw [c] at t ⊢
          exact cts_new t
        have x2 : CTS Y G E Fr nf Fs lv a (j + n + 1) (k + tpz Y a j) s ↔ ctl G E Fr nf Fs (oc Y (a + (j + n))) (CTS Y G E Fr nf Fs lv a (j + n) (bse Y a (j + n))) (CTS Y G E Fr nf Fs lv a (j + n) (tpz Y a (j + n) - 1)) s := by
          rw [hbk] at t2 ⊢
          exact cts_new t2
        refine x1.trans (Iff.trans ?_ x2.symm)
        have f1 : CTS Y G E Fr nf Fs lv (a + j) n (bse Y (a + j) n) = CTS Y G E Fr nf Fs lv a (j + n) (bse Y a (j + n)) := by
          rw [hb]
          exact funext fun s => propext (ih _ hp s)
        have f2 : CTS Y G E Fr nf Fs lv (a + j) n (tpz Y (a + j) n - 1) = CTS Y G E Fr nf Fs lv a (j + n) (tpz Y a (j + n) - 1) := by
          rw [show tpz Y a (j + n) - 1 = tpz Y (a + j) n - 1 + tpz Y a j by omega]
          exact funext fun s => propext (ih _ (by omega) s)
        rw [f1, f2, Nat.add_assoc a j n]
      · have t2 := fun y => t (htm.mpr y)
        refine (cts_plain (n + 1) k hk t).trans (Iff.trans ?_ (cts_plain (j + (n + 1)) (k + tpz Y a j) (by omega) t2).symm)
        rw [SBC.sv h hE (n + 1) hn k hk]
    · exact (cts_old c).trans ((ih k (by omega) s).trans (cts_old (n := j + n) (show ¬ k + tpz Y a j = bse Y a (j + n) by omega)).symm)
theorem SBC.cl (h : SBC Y a j N) : ∀ n, j + n ≤ N → ∀ k, k < tpz Y a j → (CTS Y G E Fr nf Fs lv a (j + n) k s ↔ CTS Y G E Fr nf Fs lv a j k s)
  | 0, _, _, _ => Iff.rfl
  | n + 1, hn, k, hk => by
    have ih := SBC.cl h n (by omega) k hk
    have h1 := h.2.1 (j + n) (by omega)
    have h2 := h.2.2 (j + n + 1) (by omega) (by omega)
    have e1 : tpz Y a (j + n + 1) = bse Y a (j + n) + 1 := rfl
    exact (cts_old (n := j + n) (by omega)).trans ih
end SubSpec
section ReadyShow3
variable {H H0 H1 : mu_H} {U V KU Xt : Ud} {m d P fb NN us nf nw nb kN ns sp : Nat} {C : Nat → Nat} {Y : Ts} {f od bs lv lc wa wn wi cl ro z me sa sN si : Nat → Nat} {es nm tm : Nat → Int32} {wk p : Nat → Bool} {S FS : Nat → Nat → Bool} {bo oid : Nat → Nat → Nat} {Gr : Nat → Nat → Prop} {al : Nat → Prop} {L4 L8 : Nat → Int64} {F : Uf}
variable {n s r T k a cn lst o w vr pl gq q0 nn ga gN wN L : Nat} {sh : Nat → Nat} {lpo : Option Nat} {A : Nat → Prop} {x : Int32} {K : mu_H}
theorem crd_show28 (h : um m H) (hU : CRI (ud m H) m Y es P f od KU Xt ns sa sN si fb NN us S z p nf nm tm bs lv lc oid nw wa wn wi wk nb bo cl al ro Gr me kN FS L4 L8) (h4 : mu_r H 0 4 = some m) (h3 : ¬ mu_i H 0 3 = 0) (h12 : ¬ mu_i H 0 12 = 0) (hC21 : 2 * (((Y 13).1 + 2) * 4) + 4 ≤ C 21) (hC21b : C 21 ≤ 8388608) (hns : ((ud m H).1 17).1 = ns) (hnb : ns < 2147483648) (hsp : sp < ns) (hy : (Y 17).2 sp 0 = nI (sa sp) ∧ (Y 17).2 sp 1 = nI (sa sp + sN sp) ∧ (Y 17).2 sp 2 = nI (si sp)) (hS : SPQ Y es (NN - fb) C (sa sp) (sN sp) (si sp) 0) (hC26b : C 26 ≤ 8388608) (hN : sN sp = nn + 1) (hb : sa sp + nn + 1 ≤ (Y 0).1) (hou : (Y 0).2 (sa sp + nn) 0 = nI 28) (hb0 : bse Y (sa sp) nn = 0) (hEU : EUP Y (sa sp) nn wN) (h32 : ∀ n, n < nn → oc Y (sa sp + n) < 32) (hSg : SPQ Y es (NN - fb) C (sa sp + wN) (nn - wN) (si sp) 0) (hSw : SPQ Y es (NN - fb) C (sa sp) wN (si sp) 1) : mu_MT (mu_D (d + 22)) 72 [.inr (.inr (some 0)), .inl (nI sp)] H (fun r => ∃ K, ((um m K ∧ ur m C H K) ∧ CRI (ud m K) m Y es P f od KU Xt ns sa sN si fb NN us S z p nf nm tm bs lv lc oid nw wa wn wi wk nb bo cl al ro Gr me kN FS L4 L8 ∧ (ud m K).2.1 158 13 = (ud m H).2.1 158 13) ∧ ((∃ st, SST 28 (INS Y KU f P od) ((SPD Y (GOS Y KU Xt f P od) (EVS Y KU f P od) (EGS (GOS Y KU Xt f P od) kN (fun f t => FS f t = true) (EVS Y KU f P od)) kN (fun f t => FS f t = true) KU f P od sa sN si) sp) st ∧ ((∃ cn sh lpo, SP2 (GOS Y KU Xt f P od) (SHH 28 (EVS Y KU f P od) (CTS Y (GOS Y KU Xt f P od) (EVS Y KU f P od) (EGS (GOS Y KU Xt f P od) kN (fun f t => FS f t = true) (EVS Y KU f P od)) kN (fun f t => FS f t = true) (lvq Y KU f P od (si sp)) (sa sp) wN 0) ((SPD Y (GOS Y KU Xt f P od) (EVS Y KU f P od) (EGS (GOS Y KU Xt f P od) kN (fun f t => FS f t = true) (EVS Y KU f P od)) kN (fun f t => FS f t = true) KU f P od sa sN si) sp)) (SHT 28 (EVS Y KU f P od) (EGS (GOS Y KU Xt f P od) kN (fun f t => FS f t = true) (EVS Y KU f P od)) (CTS Y (GOS Y KU Xt f P od) (EVS Y KU f P od) (EGS (GOS Y KU Xt f P od) kN (fun f t => FS f t = true) (EVS Y KU f P od)) kN (fun f t => FS f t = true) (lvq Y KU f P od (si sp)) (sa sp + wN) (nn - wN) 0)) st cn sh lpo ∧ (1 ≤ cn ∧ cn ≤ 2000) ∧ SHN (ud m K) cn sh lpo ∧ r = (.inl (some (.inl (nI cn))), K)) ∨ (((∃ cn sh lpo, SP2 (GOS Y KU Xt f P od) (SHH 28 (EVS Y KU f P od) (CTS Y (GOS Y KU Xt f P od) (EVS Y KU f P od) (EGS (GOS Y KU Xt f P od) kN (fun f t => FS f t = true) (EVS Y KU f P od)) kN (fun f t => FS f t = true) (lvq Y KU f P od (si sp)) (sa sp) wN 0) ((SPD Y (GOS Y KU Xt f P od) (EVS Y KU f P od) (EGS (GOS Y KU Xt f P od) kN (fun f t => FS f t = true) (EVS Y KU f P od)) kN (fun f t => FS f t = true) KU f P od sa sN si) sp)) (SHT 28 (EVS Y KU f P od) (EGS (GOS Y KU Xt f P od) kN (fun f t => FS f t = true) (EVS Y KU f P od)) (CTS Y (GOS Y KU Xt f P od) (EVS Y KU f P od) (EGS (GOS Y KU Xt f P od) kN (fun f t => FS f t = true) (EVS Y KU f P od)) kN (fun f t => FS f t = true) (lvq Y KU f P od (si sp)) (sa sp + wN) (nn - wN) 0)) st cn sh lpo ∧ 2000 < cn) ∨ False) ∧ ((ud m K).2.1 158 13 = (ud m H).2.1 158 13 ∧ (ud m K).2.1 158 11 = (ud m H).2.1 158 11 ∧ (ud m K).2.1 158 12 = (ud m H).2.1 158 12 ∧ (ud m K).2.2.1 158 9 = (ud m H).2.2.1 158 9) ∧ r = (.inr 3, mu_ex K)))) ∨ ((∀ s, ¬ ((INS Y KU f P od) s ∧ sgz 28 ((SPD Y (GOS Y KU Xt f P od) (EVS Y KU f P od) (EGS (GOS Y KU Xt f P od) kN (fun f t => FS f t = true) (EVS Y KU f P od)) kN (fun f t => FS f t = true) KU f P od sa sN si) sp) s)) ∧ ((ud m K).2.1 158 13 = (ud m H).2.1 158 13 ∧ (ud m K).2.1 158 11 = (ud m H).2.1 158 11 ∧ (ud m K).2.1 158 12 = (ud m H).2.1 158 12 ∧ (ud m K).2.2.1 158 9 = (ud m H).2.2.1 158 9) ∧ r = (.inr 2, mu_ex K)))) := by
  have hS' := hS
  obtain ⟨rs, cst, k1, -⟩ := hS'
  have hYb := k1.2.1.1
  have f17 : ∀ V, CRI V m Y es P f od KU Xt ns sa sN si fb NN us S z p nf nm tm bs lv lc oid nw wa wn wi wk nb bo cl al ro Gr me kN FS L4 L8 → (V.1 17).2 sp 1 = nI (sa sp + nn + 1) ∧ (V.1 0).2 (sa sp + nn) 0 = nI 28 := fun V hV => by
    have hj := (RDX.rsk hV.1.1.1).jv.2.2.2.2.2
    exact ⟨(hj sp 1 (by decide)).trans (by rw [hy.2.1, hN]; rfl), by rw [hV.1.1.2.2.2.2.2.2.1]; exact hou⟩
  have hGT : ∀ a b, (GOS Y KU Xt f P od) a b → a < pd f 0 P ∧ b < pd f 0 P := fun a b y => ⟨y.1.1, y.2.1.1⟩
  have htop := fun s => crd_top (s := s) (o := 28) (KU := KU) (Xt := Xt) (P := P) (f := f) (od := od) (kN := kN) (FS := FS) (si := si) hN hou (by decide) (Or.inr (Or.inl rfl)) hb0
  have hpl := k1.pln
  have ep : plen (oc Y (sa sp + nn)) (oa Y (sa sp + nn)) = 2 := by
    rw [show oc Y (sa sp + nn) = 28 from by unfold oc; rw [hou]; exact nI_clamp (by decide)]
    rfl
  have hp2 := hpl nn (by omega)
  have eb : bse Y (sa sp) nn = tpz Y (sa sp) nn - plen (oc Y (sa sp + nn)) (oa Y (sa sp + nn)) := rfl
  obtain ⟨u1, u2, u3, u4⟩ := hEU
  have hB : SBC Y (sa sp) wN nn := ⟨by omega, fun q hq => hpl q (by omega), fun q q1 q2 => by have := u4 q q1 q2; omega⟩
  have hen : wN + (nn - wN) = nn := by omega
  have et := hB.tp (nn - wN) (by omega)
  rw [hen] at et
  have hA : CTS Y (GOS Y KU Xt f P od) (EVS Y KU f P od) (EGS (GOS Y KU Xt f P od) kN (fun f t => FS f t = true) (EVS Y KU f P od)) kN (fun f t => FS f t = true) (lvq Y KU f P od (si sp)) (sa sp) nn 0 = CTS Y (GOS Y KU Xt f P od) (EVS Y KU f P od) (EGS (GOS Y KU Xt f P od) kN (fun f t => FS f t = true) (EVS Y KU f P od)) kN (fun f t => FS f t = true) (lvq Y KU f P od (si sp)) (sa sp) wN 0 := funext fun s => propext (by
    have z := hB.cl (s := s) (G := (GOS Y KU Xt f P od)) (E := (EVS Y KU f P od)) (Fr := (EGS (GOS Y KU Xt f P od) kN (fun f t => FS f t = true) (EVS Y KU f P od))) (nf := kN) (Fs := (fun f t => FS f t = true)) (lv := lvq Y KU f P od (si sp)) (nn - wN) (by omega) 0 (by omega)
    rw [hen] at z
    exact z)
  have hBq : CTS Y (GOS Y KU Xt f P od) (EVS Y KU f P od) (EGS (GOS Y KU Xt f P od) kN (fun f t => FS f t = true) (EVS Y KU f P od)) kN (fun f t => FS f t = true) (lvq Y KU f P od (si sp)) (sa sp) nn (tpz Y (sa sp) nn - 1) = CTS Y (GOS Y KU Xt f P od) (EVS Y KU f P od) (EGS (GOS Y KU Xt f P od) kN (fun f t => FS f t = true) (EVS Y KU f P od)) kN (fun f t => FS f t = true) (lvq Y KU f P od (si sp)) (sa sp + wN) (nn - wN) 0 := funext fun s => propext (by
    have z := hB.ct h32 (G := (GOS Y KU Xt f P od)) (E := (EVS Y KU f P od)) (Fr := (EGS (GOS Y KU Xt f P od) kN (fun f t => FS f t = true) (EVS Y KU f P od))) (nf := kN) (Fs := (fun f t => FS f t = true)) (lv := lvq Y KU f P od (si sp)) (nn - wN) (by omega) 0 (by omega) s
    rw [hen, show 0 + tpz Y (sa sp) wN = tpz Y (sa sp) nn - 1 by omega] at z
    exact z.symm)
  rw [hA, hBq] at htop
  have hex : ∀ st, SST 28 (INS Y KU f P od) ((SPD Y (GOS Y KU Xt f P od) (EVS Y KU f P od) (EGS (GOS Y KU Xt f P od) kN (fun f t => FS f t = true) (EVS Y KU f P od)) kN (fun f t => FS f t = true) KU f P od sa sN si) sp) st → ¬ (SHT 28 (EVS Y KU f P od) (EGS (GOS Y KU Xt f P od) kN (fun f t => FS f t = true) (EVS Y KU f P od)) (CTS Y (GOS Y KU Xt f P od) (EVS Y KU f P od) (EGS (GOS Y KU Xt f P od) kN (fun f t => FS f t = true) (EVS Y KU f P od)) kN (fun f t => FS f t = true) (lvq Y KU f P od (si sp)) (sa sp + wN) (nn - wN) 0)) st → ∃ n W, PTH (GOS Y KU Xt f P od) (SHH 28 (EVS Y KU f P od) (CTS Y (GOS Y KU Xt f P od) (EVS Y KU f P od) (EGS (GOS Y KU Xt f P od) kN (fun f t => FS f t = true) (EVS Y KU f P od)) kN (fun f t => FS f t = true) (lvq Y KU f P od (si sp)) (sa sp) wN 0) ((SPD Y (GOS Y KU Xt f P od) (EVS Y KU f P od) (EGS (GOS Y KU Xt f P od) kN (fun f t => FS f t = true) (EVS Y KU f P od)) kN (fun f t => FS f t = true) KU f P od sa sN si) sp)) (SHT 28 (EVS Y KU f P od) (EGS (GOS Y KU Xt f P od) kN (fun f t => FS f t = true) (EVS Y KU f P od)) (CTS Y (GOS Y KU Xt f P od) (EVS Y KU f P od) (EGS (GOS Y KU Xt f P od) kN (fun f t => FS f t = true) (EVS Y KU f P od)) kN (fun f t => FS f t = true) (lvq Y KU f P od (si sp)) (sa sp + wN) (nn - wN) 0)) st n W := fun st hst hno => by
    have hD := (sgz_n (by decide)).mp hst.1.2
    have hC := ctl_28.mp ((htop st).mp hD)
    exact eus_away hC hno (fun t y => shh_28.mpr y) (fun t y => ⟨y.1.1, (sgz_n (by decide)).mpr y.1.2, y.2⟩)
  refine crd_show (d := d) (C := C) (o := 28) (nn := nn) (ga := sa sp + wN) (gN := nn - wN) (wN := wN) (PS := SP2 (GOS Y KU Xt f P od) (SHH 28 (EVS Y KU f P od) (CTS Y (GOS Y KU Xt f P od) (EVS Y KU f P od) (EGS (GOS Y KU Xt f P od) kN (fun f t => FS f t = true) (EVS Y KU f P od)) kN (fun f t => FS f t = true) (lvq Y KU f P od (si sp)) (sa sp) wN 0) ((SPD Y (GOS Y KU Xt f P od) (EVS Y KU f P od) (EGS (GOS Y KU Xt f P od) kN (fun f t => FS f t = true) (EVS Y KU f P od)) kN (fun f t => FS f t = true) KU f P od sa sN si) sp)) (SHT 28 (EVS Y KU f P od) (EGS (GOS Y KU Xt f P od) kN (fun f t => FS f t = true) (EVS Y KU f P od)) (CTS Y (GOS Y KU Xt f P od) (EVS Y KU f P od) (EGS (GOS Y KU Xt f P od) kN (fun f t => FS f t = true) (EVS Y KU f P od)) kN (fun f t => FS f t = true) (lvq Y KU f P od (si sp)) (sa sp + wN) (nn - wN) 0))) (PB := fun _ => False) (B10 := (fun st K => ((um m K ∧ ur m C H K) ∧ ∃ K0 g0, CRI (ud m K0) m Y es P f od KU Xt ns sa sN si fb NN us S z p nf nm tm bs lv lc oid nw wa wn wi wk nb bo cl al ro Gr me kN FS L4 L8 ∧ KPW (ud m H) (ud m K0) ∧ (uq FRNG (ud m K0) (ud m K) ∧ PKS (ud m K0) (ud m K)) ∧ (RDX (ud m K) m od Y es P f fb (pd f 0 P) Gr NN us S z p nf nm tm bs lv lc oid nw wa wn wi wk nb bo cl al ro ∧ GRB (ud m K) (pd f 0 P) (NN - fb) ((pd f 0 P + 63) / 64) ro (fun r => pzz ro r (pd f 0 P)) me) ∧ (∃ hh, LPQ (ud m K) (GOS Y KU Xt f P od) (SHH 28 (EVS Y KU f P od) (CTS Y (GOS Y KU Xt f P od) (EVS Y KU f P od) (EGS (GOS Y KU Xt f P od) kN (fun f t => FS f t = true) (EVS Y KU f P od)) kN (fun f t => FS f t = true) (lvq Y KU f P od (si sp)) (sa sp) wN 0) ((SPD Y (GOS Y KU Xt f P od) (EVS Y KU f P od) (EGS (GOS Y KU Xt f P od) kN (fun f t => FS f t = true) (EVS Y KU f P od)) kN (fun f t => FS f t = true) KU f P od sa sN si) sp)) (SHT 28 (EVS Y KU f P od) (EGS (GOS Y KU Xt f P od) kN (fun f t => FS f t = true) (EVS Y KU f P od)) (CTS Y (GOS Y KU Xt f P od) (EVS Y KU f P od) (EGS (GOS Y KU Xt f P od) kN (fun f t => FS f t = true) (EVS Y KU f P od)) kN (fun f t => FS f t = true) (lvq Y KU f P od (si sp)) (sa sp + wN) (nn - wN) 0)) st ro (fun _ => st) (fun _ => 0) (fun _ => 0) (pd f 0 P) (NN - fb) ((pd f 0 P + 63) / 64) 161 0 g0 1 hh) ∧ ((ud m K).2.1 158 14 = 4 ∧ (ud m K).2.1 158 10 = nI 1 ∧ (ud m K).2.1 158 21 = -1) ∧ ((ud m K).2.2.1 158 8).2 0 = nI st ∧ ¬ (SHT 28 (EVS Y KU f P od) (EGS (GOS Y KU Xt f P od) kN (fun f t => FS f t = true) (EVS Y KU f P od)) (CTS Y (GOS Y KU Xt f P od) (EVS Y KU f P od) (EGS (GOS Y KU Xt f P od) kN (fun f t => FS f t = true) (EVS Y KU f P od)) kN (fun f t => FS f t = true) (lvq Y KU f P od (si sp)) (sa sp + wN) (nn - wN) 0)) st) ∨ ((um m K ∧ ur m C H K) ∧ CRI (ud m K) m Y es P f od KU Xt ns sa sN si fb NN us S z p nf nm tm bs lv lc oid nw wa wn wi wk nb bo cl al ro Gr me kN FS L4 L8 ∧ ((ud m K).2.1 158 13 = (ud m H).2.1 158 13 ∧ (ud m K).2.1 158 11 = (ud m H).2.1 158 11 ∧ (ud m K).2.1 158 12 = (ud m H).2.1 158 12 ∧ (ud m K).2.2.1 158 9 = (ud m H).2.2.1 158 9) ∧ (SHT 28 (EVS Y KU f P od) (EGS (GOS Y KU Xt f P od) kN (fun f t => FS f t = true) (EVS Y KU f P od)) (CTS Y (GOS Y KU Xt f P od) (EVS Y KU f P od) (EGS (GOS Y KU Xt f P od) kN (fun f t => FS f t = true) (EVS Y KU f P od)) kN (fun f t => FS f t = true) (lvq Y KU f P od (si sp)) (sa sp + wN) (nn - wN) 0)) st ∧ TOLD (ud m K) 1 (fun _ => st) none))) h hU h4 h3 h12 hC21 hC21b hns hnb hsp hy hS hC26b hN hb hou (by decide) (Or.inr (Or.inl rfl)) (by decide) (Or.inr ⟨rfl, ⟨u1, u2, u3, u4⟩, rfl, by omega, hSw⟩) hSg (fun st cn sh lpo hst y => sp2_goes hGT hst.1.1.1 y) (fun st K hst y => ?_) (fun st K y => y.elim (fun y => y.1.1.1.1) (fun y => y.1.1.1.1)) (fun st K hst y => ?_)
  · obtain ⟨yA, ⟨g0, g1, y2, y3⟩, y4, y5⟩ := y
    have g := f17 _ yA.2.1
    by_cases c : (SHT 28 (EVS Y KU f P od) (EGS (GOS Y KU Xt f P od) kN (fun f t => FS f t = true) (EVS Y KU f P od)) (CTS Y (GOS Y KU Xt f P od) (EVS Y KU f P od) (EGS (GOS Y KU Xt f P od) kN (fun f t => FS f t = true) (EVS Y KU f P od)) kN (fun f t => FS f t = true) (lvq Y KU f P od (si sp)) (sa sp + wN) (nn - wN) 0)) st
    · refine (crd_once28 (d := d) (C := C) (lst := sa sp + nn) (Qg := CTS Y (GOS Y KU Xt f P od) (EVS Y KU f P od) (EGS (GOS Y KU Xt f P od) kN (fun f t => FS f t = true) (EVS Y KU f P od)) kN (fun f t => FS f t = true) (lvq Y KU f P od (si sp)) (sa sp + wN) (nn - wN) 0) (Qw := CTS Y (GOS Y KU Xt f P od) (EVS Y KU f P od) (EGS (GOS Y KU Xt f P od) kN (fun f t => FS f t = true) (EVS Y KU f P od)) kN (fun f t => FS f t = true) (lvq Y KU f P od (si sp)) (sa sp) wN 0) yA.1.1 yA.2.1 hsp (Nat.le_of_lt hnb) g.1 (by omega) g.2 yA.2.2.1 y2 y3 y4 (y5 rfl) ⟨hst.1.1.1, hst.1.1.2.2⟩ c).imp (fun K1 w => Or.inr ?_)
      obtain ⟨w1, w2, w3, w4⟩ := w
      exact ⟨⟨w1.1, yA.1.2.trans w1.2⟩, w3, fix_of yA.2.2.2 w2.1, c, w4⟩
    · refine (crd_led28 (d := d) (C := C) (lst := sa sp + nn) (Qg := CTS Y (GOS Y KU Xt f P od) (EVS Y KU f P od) (EGS (GOS Y KU Xt f P od) kN (fun f t => FS f t = true) (EVS Y KU f P od)) kN (fun f t => FS f t = true) (lvq Y KU f P od (si sp)) (sa sp + wN) (nn - wN) 0) (Qw := CTS Y (GOS Y KU Xt f P od) (EVS Y KU f P od) (EGS (GOS Y KU Xt f P od) kN (fun f t => FS f t = true) (EVS Y KU f P od)) kN (fun f t => FS f t = true) (lvq Y KU f P od (si sp)) (sa sp) wN 0) yA.1.1 yA.2.1 hsp (Nat.le_of_lt hnb) g.1 (by omega) g.2 yA.2.2.1 y2 y3 y4 (y5 rfl) ⟨hst.1.1.1, hst.1.1.2.2⟩ c).imp (fun K1 w => Or.inl ?_)
      obtain ⟨w1, w2, w3, w4, w5, w6⟩ := w
      exact ⟨⟨w1.1, yA.1.2.trans w1.2⟩, K, g0, yA.2.1, yA.2.2.2, w2, w3, w4, w5, w6, c⟩
  · rcases y with ⟨y1, K0, g0, y2, y3, y4, y5, y6, y7, y8, y9⟩ | ⟨y1, y2, y3, y4, y5⟩
    · refine (crd_ledD (d := d) (C := C) y2 y1.1 hC21 hC21b y4 y5 y6 y7 y8 (hex st hst y9)).imp (fun K1 w => ?_)
      obtain ⟨w1, w2, w3, n, W, w4, w5⟩ := w
      exact ⟨⟨w1.1, y1.2.trans w1.2⟩, w3, fix_of y3 w2.1, Or.inl ⟨n + 1, W, none, ⟨rfl, Or.inr ⟨y9, n, rfl, w4⟩⟩, w5⟩⟩
    · refine (crd_idle (d := d) (C := C) y1.1 y2).imp (fun K1 w => ?_)
      have e := w.2
      refine ⟨⟨w.1.1, y1.2.trans w.1.2⟩, ?_⟩
      rw [e]
      exact ⟨y2, y3, Or.inl ⟨1, _, none, ⟨rfl, Or.inl ⟨y4, rfl, rfl⟩⟩, y5⟩⟩
theorem crd_show0 (h : um m H) (hU : CRI (ud m H) m Y es P f od KU Xt ns sa sN si fb NN us S z p nf nm tm bs lv lc oid nw wa wn wi wk nb bo cl al ro Gr me kN FS L4 L8) (h4 : mu_r H 0 4 = some m) (h3 : ¬ mu_i H 0 3 = 0) (h12 : ¬ mu_i H 0 12 = 0) (hC21 : 2 * (((Y 13).1 + 2) * 4) + 4 ≤ C 21) (hC21b : C 21 ≤ 8388608) (hns : ((ud m H).1 17).1 = ns) (hnb : ns < 2147483648) (hsp : sp < ns) (hy : (Y 17).2 sp 0 = nI (sa sp) ∧ (Y 17).2 sp 1 = nI (sa sp + sN sp) ∧ (Y 17).2 sp 2 = nI (si sp)) (hS : SPQ Y es (NN - fb) C (sa sp) (sN sp) (si sp) 0) (hC26b : C 26 ≤ 8388608) (hN : sN sp = nn + 1) (hb : sa sp + nn + 1 ≤ (Y 0).1) (hou : (Y 0).2 (sa sp + nn) 0 = nI o) (ho34 : o ≤ 34) (hno : ¬ tmd o ∨ o = 29) : mu_MT (mu_D (d + 22)) 72 [.inr (.inr (some 0)), .inl (nI sp)] H (fun r => ∃ K, ((um m K ∧ ur m C H K) ∧ CRI (ud m K) m Y es P f od KU Xt ns sa sN si fb NN us S z p nf nm tm bs lv lc oid nw wa wn wi wk nb bo cl al ro Gr me kN FS L4 L8) ∧ ((ud m K).2.1 158 13 = (ud m H).2.1 158 13 ∧ (ud m K).2.1 158 11 = (ud m H).2.1 158 11 ∧ (ud m K).2.1 158 12 = (ud m H).2.1 158 12 ∧ (ud m K).2.2.1 158 9 = (ud m H).2.2.1 158 9) ∧ r = (.inr 2, mu_ex K)) := by
  have hS' := hS
  obtain ⟨rs, cst, k1, -⟩ := hS'
  have hYb := k1.2.1.1
  refine pv_showS (A1 := fun K => K = H) (A2 := fun K => (um m K ∧ ur m C H K) ∧ ud m K = ud m H) (A3 := fun K => (um m K ∧ ur m C H K) ∧ ((((ud m H).2.2.1 158 7).2 (sp % 64) = nI sp ∧ ud m K = ud m H) ∨ ud m K = upI (sekU (ud m H) (((ud m H).1 17).2 sp 0) (((ud m H).1 17).2 sp 1) (((ud m H).1 17).2 sp 2) 0) 158 15 (nI sp))) (A4 := fun K => (um m K ∧ ur m C H K) ∧ CRI (ud m K) m Y es P f od KU Xt ns sa sN si fb NN us S z p nf nm tm bs lv lc oid nw wa wn wi wk nb bo cl al ro Gr me kN FS L4 L8 ∧ ((ud m K).2.2.1 158 7).2 (sp % 64) = nI sp ∧ KPW (ud m H) (ud m K)) (A5 := fun x K => ((um m K ∧ ur m C H K) ∧ CRI (ud m K) m Y es P f od KU Xt ns sa sN si fb NN us S z p nf nm tm bs lv lc oid nw wa wn wi wk nb bo cl al ro Gr me kN FS L4 L8 ∧ ((ud m K).2.2.1 158 7).2 (sp % 64) = nI sp ∧ KPW (ud m H) (ud m K)) ∧ x = -1) (A6 := fun _ _ => False) (A7 := fun _ _ => False) (A8 := fun _ _ => False) (A9 := fun _ _ => False) (A10 := fun _ _ => False) (A11 := fun _ _ => False) (A12 := fun _ _ _ => False) (A13 := fun _ _ _ => False) h.1.1 h.2 h4 (nI sp) (fun _ _ _ => crd_rdy h h12) (fun K y => by rw [y]; exact h.1.1) (fun K y _ => by rw [y]; exact crd_idle h hU) (fun K y => y.1.1.1.1) (fun K y _ => crd_asking hU hsp hnb y) (fun K y => y.1.1.1.1) (fun K y _ => ?_) (fun K y => y.1.1.1.1) (fun K y _ => ?_) (fun x K y => y.1.1.1.1.1) (fun x K y _ hx => absurd (by rw [y.2]; decide) hx) (fun _ _ y => y.elim) (fun _ _ y => y.elim) (fun _ _ y => y.elim) (fun _ _ y => y.elim) (fun _ _ y => y.elim) (fun _ _ y => y.elim) (fun _ _ y => y.elim) (fun _ _ y => y.elim) (fun _ _ y => y.elim) (fun _ _ y => y.elim) (fun _ _ y => y.elim) (fun _ _ y => y.elim) (fun _ _ _ y => y.elim) (fun _ _ _ y => y.elim) (fun _ _ _ y => y.elim) (fun _ y => absurd y h3) (fun x K y _ hx => ?_) (fun _ _ _ y => y.elim) (fun _ _ _ y => y.elim) (fun y => absurd y (nI_pos (by omega))) (fun _ _ y => absurd (by rw [crd_size h hns]; exact (nI_ltI (by omega) hnb).mpr hsp) y)
  · refine (crd_asked (d := d) (C := C) hU hsp (Nat.le_of_lt hnb) hy hS hC21 hC21b hC26b y.1.1 y.2).imp (fun K1 w => ?_)
    exact ⟨⟨w.1.1, y.1.2.trans w.1.2⟩, w.2⟩
  · have hj := (RDX.rsk y.2.1.1.1.1).jv.2.2.2.2.2
    have e1 : ((ud m K).1 17).2 sp 1 = nI (sa sp + nn + 1) := (hj sp 1 (by decide)).trans (by rw [hy.2.1, hN]; rfl)
    have e2 : ((ud m K).1 0).2 (sa sp + nn) 0 = nI o := by rw [y.2.1.1.1.2.2.2.2.2.2.1]; exact hou
    by_cases c : tmd o
    · exact (pr_start29 (d := d + 16) y.1.1 rfl y.2.1.1.1.2.2.2.2.2.2.2 (by omega) e1 (by omega) e2 ho34 c (hno.resolve_left (fun v => v c))).imp (fun x K1 w => by rw [w.2]; exact ⟨y, w.1⟩)
    · exact (pr_start0 (d := d + 16) y.1.1 rfl y.2.1.1.1.2.2.2.2.2.2.2 (by omega) e1 (by omega) e2 ho34 c).imp (fun x K1 w => by rw [w.2]; exact ⟨y, w.1⟩)
  · have w := y.1.2.2.2
    exact ⟨K, ⟨y.1.1, y.1.2.1⟩, ⟨w.2.1 158 13 rfl, w.2.1 158 11 rfl, w.2.1 158 12 rfl, w.2.2.1 158 9 rfl⟩, rfl⟩
end ReadyShow3
