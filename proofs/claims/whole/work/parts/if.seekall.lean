/-! DRIVE: what is sought is found -/
/-- parts that wait for a set -/
def cns (Y : Ts) (a N n : Nat) (js : Nat → Option Nat) : Nat := (if js (bsn Y a N n) = none then 1 else 0) + (if js (tpz Y a n - 1) = none then 1 else 0)
/-- what an operator costs -/
def wgt (R o : Nat) : Nat := if o = 29 then 16 * R + 24 else if (10 ≤ o ∧ o ≤ 15) ∨ o = 28 then 8 * R + 24 else 24
/-- a turn of drive while something is sought: at an operator, a truth waited for, the graph waited for, found -/
def STA (H0 : mu_H) (m : Nat) (C : Nat → Nat) (RX : Ud → Prop) (T R wd : Nat) (ro mb me : Nat → Nat) (RB : Nat → Nat → Prop) (nk : Nat) (FS : Nat → Nat → Bool) (L4 L8 : Nat → Int64) (Y : Ts) (P : Nat) (f od : Nat → Nat) (es : Nat → Int32) (a N i0 into : Nat) (E : Nat → Prop) (Q : Nat → Nat → Nat → Prop) (cst : Nat → Nat) (L : Nat) (PE : mu_H → Prop) (M i : Nat) (H : mu_H) : Prop :=
  um m H ∧ ur m C H0 H ∧ ((∃ n js sc, SKS (ud m H) Y a N i0 into T E Q n js sc ∧ SKW (ud m H) m RX T R wd ro mb me nk FS L4 L8 Y ∧ 8 * (N - n) + 2 * cns Y a N n js ≤ M ∧ i + cst n + 8 * cns Y a N n js + 8 ≤ L) ∨ (∃ U0 n js sc k q, FND (ud m H) m RX T R wd ro mb me nk FS L4 L8 Y P f od es a N i0 into E Q U0 n js sc k q ∧ 8 * (N - n) + 2 * cns Y a N n js ≤ M + 1 ∧ i + cst n + 8 * cns Y a N n js + 7 ≤ L) ∨ (∃ X U0 n js sc jl jr sj qs, WTG X U0 m RX T R wd ro mb me nk FS L4 L8 Y a N i0 into E Q n js sc jl jr sj qs ∧ RCK X (ud m H) T R wd ro mb me RB nk FS 161 sj qs (plo (oc Y (a + n))) ∧ 8 * (N - n) ≤ M + 1 ∧ i + cst n + 7 ≤ L) ∨ (PE H ∧ i + 2 ≤ L))
section SeekAll
variable {H H0 : mu_H} {U U0 V V' V0 V3 X K0 : Ud} {m d P R wd nk N a i0 into n sc jl jr sj qs i N0 fb NN us nf nw nb : Nat} {C : Nat → Nat} {Y : Ts} {f od bs lv lc wa wn wi cl ro z mb me : Nat → Nat} {es rs nm tm : Nat → Int32} {wk p : Nat → Bool} {S FS : Nat → Nat → Bool} {bo oid : Nat → Nat → Nat} {Gr G : Nat → Nat → Prop} {al E Fr : Nat → Prop} {js : Nat → Option Nat} {F : Uf} {L4 L8 : Nat → Int64} {Q : Nat → Nat → Nat → Prop} {Φ : mu_R → Prop}
variable {RX : Ud → Prop} {T L M k q : Nat} {RB Fs : Nat → Nat → Prop} {cst : Nat → Nat} {PE : mu_H → Prop} {lf : Nat → Nat → Int32} {H1 : mu_H}
theorem cns_le : cns Y a N n js ≤ 2 := by
  unfold cns
  by_cases h1 : js (bsn Y a N n) = none
  · by_cases h2 : js (tpz Y a n - 1) = none
    · rw [if_pos h1, if_pos h2]; decide
    · rw [if_pos h1, if_neg h2]; decide
  · by_cases h2 : js (tpz Y a n - 1) = none
    · rw [if_neg h1, if_pos h2]; decide
    · rw [if_neg h1, if_neg h2]; decide
theorem cns_found (hj : js k = none) (hk : k = bsn Y a N n ∨ k = tpz Y a n - 1) : cns Y a N n (upo js k (some sc)) + 1 ≤ cns Y a N n js := by
  have h1 : ∀ x, (if upo js k (some sc) x = none then 1 else 0) ≤ (if js x = none then 1 else 0) := fun x => by
    unfold upo
    by_cases e : x = k
    · rw [if_pos e, if_neg (fun y => by cases y)]; exact Nat.zero_le _
    · rw [if_neg e]; exact Nat.le_refl _
  have h2 : (if upo js k (some sc) k = none then 1 else 0) + 1 ≤ (if js k = none then 1 else 0) := by
    unfold upo
    rw [if_pos rfl, if_neg (fun y => by cases y), if_pos hj]
    exact Nat.le_refl _
  have k1 := h1 (bsn Y a N n)
  have k2 := h1 (tpz Y a n - 1)
  unfold cns
  rcases hk with e | e
  · rw [← e] at k1 ⊢
    omega
  · rw [← e] at k2 ⊢
    omega
theorem wgt_lo (R o : Nat) : 24 ≤ wgt R o := by
  unfold wgt
  by_cases h1 : o = 29
  · rw [if_pos h1]; omega
  · rw [if_neg h1]
    by_cases h2 : (10 ≤ o ∧ o ≤ 15) ∨ o = 28
    · rw [if_pos h2]; omega
    · rw [if_neg h2]; exact Nat.le_refl _
theorem cst_le (hcst : ∀ n, n < N → cst (n + 1) + wgt R (oc Y (a + n)) ≤ cst n) : ∀ dn n, n + dn ≤ N → cst (n + dn) ≤ cst n
  | 0, _, _ => Nat.le_refl _
  | dn + 1, n, h => by
    have ih := cst_le hcst dn n (by omega)
    have h1 := hcst (n + dn) (by omega)
    have : cst (n + (dn + 1)) = cst (n + dn + 1) := rfl
    omega
theorem soc_sta (hcst : ∀ n, n < N → cst (n + 1) + wgt R (oc Y (a + n)) ≤ cst n) (hl : n < N) (hM : 8 * (N - n) ≤ M + 5) (hi : i + cst (n + 1) + 23 ≤ L) (h0 : ur m C H0 H) (h : SOC H1 H m C RX T R wd ro mb me RB nk FS L4 L8 Y P f od es a N i0 into E Q (n + 1)) : STA H0 m C RX T R wd ro mb me RB nk FS L4 L8 Y P f od es a N i0 into E Q cst L PE M i H1 := by
  obtain ⟨u1, r1, ⟨U0, n', js', sc', k', q', y1, y2⟩ | ⟨X, U0, n', js', sc', jl', jr', sj', qs', y1, y2, y3⟩⟩ := h
  · have hn := y2.1.1.1
    have hc := cst_le hcst (n' - (n + 1)) (n + 1) (by omega)
    rw [show n + 1 + (n' - (n + 1)) = n' by omega] at hc
    have h2 := cns_le (Y := Y) (a := a) (N := N) (n := n') (js := js')
    exact ⟨u1, h0.trans r1, Or.inr (Or.inl ⟨U0, n', js', sc', k', q', y2, by omega, by omega⟩)⟩
  · have hn := y2.1.1.1
    have hc := cst_le hcst (n' - (n + 1)) (n + 1) (by omega)
    rw [show n + 1 + (n' - (n + 1)) = n' by omega] at hc
    exact ⟨u1, h0.trans r1, Or.inr (Or.inr (Or.inl ⟨X, U0, n', js', sc', jl', jr', sj', qs', y2, y3, by omega, by omega⟩))⟩
/-- seekOn from an operator on -/
theorem sk_one (h : um m H) (hC : SKC Y es rs a N i0 into) (hQd : Q = CTS Y G E Fr nk Fs lf a) (hW : WRL RX m od Y es P f into) (hRB : ∀ x t, RB x t → t < T) (hTw : T ≤ 64 * wd) (hE : ∀ s, s < 64 * wd → (bts L4 s = true ↔ E s)) (hET : ∀ s, E s → s < T) (hC1 : 2 * (((Y 13).1 + 2) * 4) + 4 ≤ C 21) (hC2 : C 21 ≤ 8388608) (hC26 : 4 * (N + 2) + 2 ≤ C 26) (hC26b : C 26 ≤ 8388608) (hS : SKS (ud m H) Y a N i0 into T E Q n js sc) (hw : SKW (ud m H) m RX T R wd ro mb me nk FS L4 L8 Y) (h1 : ∀ H1, um m H1 → ur m C H H1 → (∃ k q, FND (ud m H1) m RX T R wd ro mb me nk FS L4 L8 Y P f od es a N i0 into E Q (ud m H) n js sc k q) → Φ (.inl none, H1)) (h2 : ∀ H1, um m H1 → ur m C H H1 → (∃ X jl jr sj qs, WTG X (ud m H) m RX T R wd ro mb me nk FS L4 L8 Y a N i0 into E Q n js sc jl jr sj qs ∧ RCK X (ud m H1) T R wd ro mb me RB nk FS 161 sj qs (plo (oc Y (a + n)))) → Φ (.inl none, H1)) (h3 : n < N → ∀ H1, SOC H1 H m C RX T R wd ro mb me RB nk FS L4 L8 Y P f od es a N i0 into E Q (n + 1) → Φ (.inl none, H1)) (hend : ∀ H3, um m H3 → ur m C H H3 → SKW (ud m H3) m RX T R wd ro mb me nk FS L4 L8 Y → (ud m H3).2.1 158 16 = nI (a + (N + 1)) → (ud m H3).2.1 158 17 = nI (a + N) → (ud m H3).2.1 158 19 = nI into → (∃ q, LSN (ud m H3) 161 into q 256 ∧ ∀ s, s < T → E s → (bts (lgf (ud m H3) 161 into) s = true ↔ Q N 0 s)) → mu_W (mu_D (d + 8)) mu_m342 (8, [(0, .inr (.inr (some 158))), (1, .inr (.inr (some m)))], [], H3) Φ) : mu_W (mu_D (d + 8)) mu_m342 (8, [(0, .inr (.inr (some 158))), (1, .inr (.inr (some m)))], [], H) Φ := by
  by_cases hl : n < N
  · have hbn := bsn_lt (Y := Y) (a := a) hl
    by_cases hA : ASK Y a N n
    · by_cases hun : ∃ k, bse Y a n ≤ k ∧ k < tpz Y a n ∧ js k = none
      · refine sk_t0 h rfl hC hS.2.1 (fun k hk => hS.jb hC k hk) hS.2.2.2.1.1 hw.2.2.2.2.2.2.1 hl hA ?_
        exact sk_t2 h rfl hC hS hw hW hA hbn.symm hun hC1 hC2 h1
      · have hall : ∀ k, bse Y a n ≤ k → k < tpz Y a n → ¬ js k = none := fun k k1 k2 k3 => hun ⟨k, k1, k2, k3⟩
        by_cases ht : tmd (oc Y (a + n))
        · exact sk_t4 (RB := RB) h rfl hC hS hw hW hl ht hall hRB (fun s hs y => hET s ((hE s hs).mp y)) hC1 hC2 hC26 hC26b h2
        · exact sk_t3 h rfl hC hQd hS hw hW hl hA ht hall hTw hC1 hC2 hC26 hC26b (fun H3 u3 r3 s3 w3 => sk_run (d := d) (C := C) (H0 := H) (n0 := n + 1) hC hQd hW hRB hTw hE hET hC1 hC2 hC26 hC26b (h3 hl) hend (N - (n + 1)) (n + 1) _ _ H3 (by omega) (Nat.le_refl _) u3 r3 s3 w3)
    · exact sk_t1 h rfl hC hS hw hW hl hA hC26 hC26b (fun k s hk => by rw [hQd]; exact cts_old (by omega)) (fun H3 u3 r3 s3 w3 => sk_run (d := d) (C := C) (H0 := H) (n0 := n + 1) hC hQd hW hRB hTw hE hET hC1 hC2 hC26 hC26b (h3 hl) hend (N - (n + 1)) (n + 1) _ _ H3 (by omega) (Nat.le_refl _) u3 r3 s3 w3)
  · have hn : n = N := by have := hS.1; omega
    subst hn
    exact sk_tN (d := d) (C := C) h rfl hC hS hw hW hC1 hC2 hC26 hC26b h1 hend
/-- drive, while something is sought -/
theorem dr_seekall (hRN : R = NN - fb) (hmem : ∀ r, ¬ r = 0 → r < R → ∃ s, s < pd f 0 P ∧ ro s = r) (hST : ∀ r x, S (fb + r) x = true → x < pd f 0 P) (hG : ∀ s t, s < pd f 0 P → (G s t ↔ S (fb + ro s) t = true)) (hGE : ∀ s t, G s t → E t) (hC : SKC Y es rs a N i0 into) (hTw : pd f 0 P ≤ 64 * wd) (hE : ∀ s, s < 64 * wd → (bts L4 s = true ↔ E s)) (hET : ∀ s, E s → s < pd f 0 P) (hF : ∀ s, s < pd f 0 P → (bts L8 s = true ↔ Fr s)) (hC21 : 2 * (((Y 13).1 + 2) * 4) + 4 ≤ C 21) (hC21b : C 21 ≤ 8388608) (hC26 : 4 * (N + 2) + 2 ≤ C 26) (hC26b : C 26 ≤ 8388608) (hQd : Q = CTS Y G E Fr nk (fun f t => FS f t = true) (lvq Y K0 f P od i0) a) (hle : ∀ n, n < N → plen (oc Y (a + n)) (oa Y (a + n)) = 0 → ¬ rs n = 9) (hroot : stk Y rs a N 0 = 1 ∨ stk Y rs a N 0 = 9) (hcst : ∀ n, n < N → cst (n + 1) + wgt R (oc Y (a + n)) ≤ cst n) (hL : L ≤ 1073741824) (hend : ∀ H3, um m H3 → ur m C H0 H3 → SKW (ud m H3) m (RXK K0 into m od Y es P f fb Gr NN us S z p nf nm tm bs lv lc oid nw wa wn wi wk nb bo cl al ro) (pd f 0 P) R wd ro mb me nk FS L4 L8 Y → (ud m H3).2.1 158 16 = nI (a + (N + 1)) → (ud m H3).2.1 158 17 = nI (a + N) → (ud m H3).2.1 158 19 = nI into → (∃ q, LSN (ud m H3) 161 into q 256 ∧ ∀ s, s < (pd f 0 P) → E s → (bts (lgf (ud m H3) 161 into) s = true ↔ Q N 0 s)) → ∀ Ψ : mu_R → Prop, (∀ H1, um m H1 → ur m C H0 H1 → PE H1 → Ψ (.inl none, H1)) → mu_W (mu_D (d + 19)) mu_m342 (8, [(0, .inr (.inr (some 158))), (1, .inr (.inr (some m)))], [], H3) Ψ) (hfin : ∀ i' H1, i' + 2 ≤ L → um m H1 → ur m C H0 H1 → PE H1 → mu_W (mu_D (d + 20)) mu_m376 (2, [(1, .inl (nI i')), (0, .inr (.inr (some 0)))], [], H1) Φ) : ∀ (M i : Nat) (H : mu_H), STA H0 m C (RXK K0 into m od Y es P f fb Gr NN us S z p nf nm tm bs lv lc oid nw wa wn wi wk nb bo cl al ro) (pd f 0 P) R wd ro mb me (fun r x => S (fb + r) x = true) nk FS L4 L8 Y P f od es a N i0 into E Q cst L PE M i H → mu_W (mu_D (d + 20)) mu_m376 (2, [(1, .inl (nI i)), (0, .inr (.inr (some 0)))], [], H) Φ := by
  intro M
  induction M using Nat.strongRecOn with
  | ind M ih =>
    intro i H hst
    have hRX15 : ∀ V, (RXK K0 into m od Y es P f fb Gr NN us S z p nf nm tm bs lv lc oid nw wa wn wi wk nb bo cl al ro) V → V.1 15 = K0.1 15 ∧ V.2.2.1 99 8 = K0.2.2.1 99 8 := fun V y => ⟨y.2.1.1 15 rfl, y.2.1.2.2.1 99 8 rfl⟩
    obtain ⟨h, h0, ⟨n, js, sc, hS, hw, hM, hi⟩ | ⟨U0, n, js, sc, k, q, hF, hM, hi⟩ | ⟨X, U0, n, js, sc, jl, jr, sj, qs, hT, hK, hM, hi⟩ | ⟨hP, hi⟩⟩ := hst
    · obtain ⟨w1, w2, w3, w4, ⟨w5, w6⟩, ⟨w7, w8⟩, w9, w10⟩ := id hw
      refine dr_seek (d := d) (PV := fun H1 => um m H1 ∧ ur m C H0 H1 ∧ ((∃ k q, FND (ud m H1) m (RXK K0 into m od Y es P f fb Gr NN us S z p nf nm tm bs lv lc oid nw wa wn wi wk nb bo cl al ro) (pd f 0 P) R wd ro mb me nk FS L4 L8 Y P f od es a N i0 into E Q (ud m H) n js sc k q) ∨ (∃ X jl jr sj qs, WTG X (ud m H) m (RXK K0 into m od Y es P f fb Gr NN us S z p nf nm tm bs lv lc oid nw wa wn wi wk nb bo cl al ro) (pd f 0 P) R wd ro mb me nk FS L4 L8 Y a N i0 into E Q n js sc jl jr sj qs ∧ RCK X (ud m H1) (pd f 0 P) R wd ro mb me (fun r x => S (fb + r) x = true) nk FS 161 sj qs (plo (oc Y (a + n)))) ∨ (n < N ∧ SOC H1 H m C (RXK K0 into m od Y es P f fb Gr NN us S z p nf nm tm bs lv lc oid nw wa wn wi wk nb bo cl al ro) (pd f 0 P) R wd ro mb me (fun r x => S (fb + r) x = true) nk FS L4 L8 Y P f od es a N i0 into E Q (n + 1)) ∨ PE H1)) h rfl (by omega) w6 w5 hS.2.1.1.2.2.2.2.2.2 (pr_seekW (d := d + 11) h rfl w10 (fun Ψ hΨ => sk_one (d := d + 11) (C := C) (RB := (fun r x => S (fb + r) x = true)) h hC hQd wrl_rxk hST hTw hE hET hC21 hC21b hC26 hC26b hS hw (fun H1 u1 r1 y => hΨ H1 ⟨u1, h0.trans r1, Or.inl y⟩) (fun H1 u1 r1 y => hΨ H1 ⟨u1, h0.trans r1, Or.inr (Or.inl y)⟩) (fun hl H1 y => hΨ H1 ⟨y.1, h0.trans y.2.1, Or.inr (Or.inr (Or.inl ⟨hl, y⟩))⟩) (fun H3 u3 r3 e1 e2 e3 e4 e5 => hend H3 u3 (h0.trans r3) e1 e2 e3 e4 e5 Ψ (fun H1 u1 r1 y => hΨ H1 ⟨u1, r1, Or.inr (Or.inr (Or.inr y))⟩)))) (fun H1 y => ?_)
      obtain ⟨u1, r1, ⟨k, q, y⟩ | ⟨X, jl, jr, sj, qs, y1, y2⟩ | ⟨hl, y⟩ | y⟩ := y
      · refine ih (8 * (N - n) + 2 * cns Y a N n js - 1) ?_ (i + 1) H1 ⟨u1, r1, Or.inr (Or.inl ⟨ud m H, n, js, sc, k, q, y, by omega, by omega⟩)⟩
        have hc : cns Y a N n (upo js k (some 0)) + 1 ≤ cns Y a N n js := by
          have htw := hC.two hS.1 y.1.2.1
          have := y.1.2.2.1
          exact cns_found y.1.2.2.2 (by omega)
        omega
      · have hl := y1.1.2.2.1
        exact ih (8 * (N - n) - 1) (by omega) (i + 1) H1 ⟨u1, r1, Or.inr (Or.inr (Or.inl ⟨X, ud m H, n, js, sc, jl, jr, sj, qs, y1, y2, by omega, by omega⟩))⟩
      · have hc := hcst n hl
        have hg := wgt_lo R (oc Y (a + n))
        exact ih (8 * (N - n) - 5) (by omega) (i + 1) H1 (soc_sta hcst hl (by omega) (by omega) h0 y)
      · exact hfin (i + 1) H1 (by omega) u1 r1 y
    · have htw := hC.two hF.1.1.1 hF.1.2.1
      have hkk := hF.1.2.2.1
      have hc := cns_found (sc := sc) hF.1.2.2.2 (show k = bsn Y a N n ∨ k = tpz Y a n - 1 by omega)
      rw [hQd] at hF
      refine dr_found (d := d) (C := C) (U00 := K0) h hC wrl_rxk hRX15 rfl hle hroot hF (by omega) (fun H3 u3 r3 s3 w3 => ?_)
      refine ih (8 * (N - n) + 2 * cns Y a N n (upo js k (some sc))) (by omega) (i + 1) H3 ⟨u3, h0.trans r3, Or.inl ⟨n, upo js k (some sc), sc + 1, ?_, w3, by omega, by omega⟩⟩
      rw [hQd]
      exact s3
    · have hl := hT.1.2.2.1
      have ht := hT.1.2.2.2
      have hPRW := hT.2.2.2
      have hc := hcst n hl
      -- behind all work: seekOn ends the operator and goes on
      have hdone : ∀ (i' : Nat) (H3 : mu_H) (sg : Nat), i' + 1 + cst (n + 1) + 23 ≤ L → um m H3 → ur m C H0 H3 → RSA (ud m H3) U0 m (RXK K0 into m od Y es P f fb Gr NN us S z p nf nm tm bs lv lc oid nw wa wn wi wk nb bo cl al ro) (pd f 0 P) R wd ro mb me nk FS L4 L8 Y a N i0 into E Q n js sc jl jr sj sg → ((sg = 1 ∧ ¬ oc Y (a + n) = 29) ∨ (sg = 2 ∧ oc Y (a + n) = 29)) → (∀ s, s < pd f 0 P → E s → (bts (lgf (ud m H3) 161 sj) s = true ↔ rk1 G E Fr nk (fun f t => FS f t = true) (oc Y (a + n)) (Q n (bse Y a n)) (Q n (tpz Y a n - 1)) s)) → (oc Y (a + n) = 29 → ∀ s, s < pd f 0 P → E s → (bts ((ud m H3).2.2.2.2.1 162) s = true ↔ EGS G nk (fun f t => FS f t = true) (fun t => E t ∧ ¬ Q n (tpz Y a n - 1) t) s)) → mu_W (mu_D (d + 20)) mu_m376 (2, [(1, .inl (nI i')), (0, .inr (.inr (some 0)))], [], H3) Φ := by
        intro i' H3 sg hi' u3 r3 hRS hsg hres hres2
        obtain ⟨w1, w2, w3, w4, ⟨w5, w6⟩, ⟨w7, w8⟩, w9, w10⟩ := hRS.2.2.2.1
        refine dr_seek (d := d) (PV := fun H1 => um m H1 ∧ ur m C H0 H1 ∧ (SOC H1 H3 m C (RXK K0 into m od Y es P f fb Gr NN us S z p nf nm tm bs lv lc oid nw wa wn wi wk nb bo cl al ro) (pd f 0 P) R wd ro mb me (fun r x => S (fb + r) x = true) nk FS L4 L8 Y P f od es a N i0 into E Q (n + 1) ∨ PE H1)) u3 rfl (by omega) w6 w5 hRS.2.2.1.1.2.2.2.2.2.2 (pr_seekW (d := d + 11) u3 rfl w10 (fun Ψ hΨ => sk_t5 (d := d + 11) (C := C) u3 rfl hC hQd hRS wrl_rxk hsg hTw hE hres hres2 hC21 hC21b hC26 hC26b (fun H4 u4 r4 s4 w4 => sk_run (d := d + 11) (C := C) (H0 := H3) (n0 := n + 1) (RB := (fun r x => S (fb + r) x = true)) hC hQd wrl_rxk hST hTw hE hET hC21 hC21b hC26 hC26b (fun H1 y => hΨ H1 ⟨y.1, r3.trans y.2.1, Or.inl y⟩) (fun H5 u5 r5 e1 e2 e3 e4 e5 => hend H5 u5 (r3.trans r5) e1 e2 e3 e4 e5 Ψ (fun H1 u1 r1 y => hΨ H1 ⟨u1, r1, Or.inr y⟩)) (N - (n + 1)) (n + 1) _ _ H4 (by omega) (Nat.le_refl _) u4 r4 s4 w4))) (fun H1 y => ?_)
        obtain ⟨u1, r1, y | y⟩ := y
        · exact ih (8 * (N - n) - 5) (by omega) (i' + 1) H1 (soc_sta hcst hl (by omega) (by omega) r3 y)
        · exact hfin (i' + 1) H1 (by omega) u1 r1 y
      by_cases h29 : oc Y (a + n) = 29
      · have hwg : wgt R (oc Y (a + n)) = 16 * R + 24 := by unfold wgt; rw [if_pos h29]
        refine dr_wait1 (d := d) (C := C) hRN hmem hST hG hGE hC hTw hE hET hF hC21 hC21b (by omega) h hT hK (fun i1 H1 u1 b1 r1 hR1 hres h162 => ?_)
        refine dr_wait2 (d := d) (C := C) hRN hmem hST hG hGE hC hTw hE hET hF hC21 hC21b hC26 hC26b (by omega) u1 h29 hR1 (fun j hj => by rw [h162]; exact (hPRW j hj).1) (fun i2 H2 u2 b2 r2 hR2 hlg hres2 => ?_)
        exact hdone i2 H2 2 (by omega) u2 (h0.trans (r1.trans r2)) hR2 (Or.inr ⟨rfl, h29⟩) (fun s s1 s2 => by rw [hlg]; exact hres s s1 s2) (fun _ => hres2)
      · have hwg : wgt R (oc Y (a + n)) = 8 * R + 24 := by
          unfold wgt
          rw [if_neg h29, if_pos]
          unfold tmd at ht
          omega
        refine dr_wait1 (d := d) (C := C) hRN hmem hST hG hGE hC hTw hE hET hF hC21 hC21b (by omega) h hT hK (fun i1 H1 u1 b1 r1 hR1 hres h162 => ?_)
        exact hdone i1 H1 1 (by omega) u1 (h0.trans r1) hR1 (Or.inl ⟨rfl, h29⟩) hres (fun y => absurd y h29)
    · exact hfin i H hi h h0 hP
end SeekAll
