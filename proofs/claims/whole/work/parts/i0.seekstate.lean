/-! SEEKING: its state between two operators -/
/-- what may change while something is sought: FSK, and the sets of the Prover -/
def FSK : Uf := ⟨[21, 22, 24, 26], [(129, 11), (129, 19), (129, 20), (129, 21), (100, 4), (100, 5), (100, 6), (100, 7), (100, 17), (100, 18), (100, 21), (100, 19), (100, 20), (100, 14), (100, 16), (147, 9), (147, 14), (147, 15), (147, 16), (147, 17), (147, 18), (147, 19), (147, 20), (147, 21), (147, 22), (158, 4), (158, 14), (158, 16), (158, 20)], [(129, 16), (129, 13), (129, 12), (100, 3), (100, 8), (100, 12), (100, 13), (100, 15), (100, 9), (100, 10), (100, 11), (129, 10), (147, 10), (147, 12), (147, 13), (99, 18)], [(100, 3), (100, 8), (100, 12), (100, 13), (100, 15), (147, 8), (158, 22)], [126, 127, 146, 148, 150, 151, 152, 153, 162], true⟩
def kpf (F : Uf) : Bool := F.t.all (fun j => in1 FSK.t j) && (F.i.all (fun x => in2 FSK.i x.1 x.2) && (F.a.all (fun x => in2 FSK.a x.1 x.2) && (F.n.all (fun x => Nat.beq x.1 161 || in2 FSK.n x.1 x.2) && F.l.all (fun j => in1 FSK.l j))))
/-- what is asked of the rows of the relation while something is sought -/
def WRL (RX : Ud → Prop) (m : Nat) (od : Nat → Nat) (Y : Ts) (es : Nat → Int32) (P : Nat) (f : Nat → Nat) (lo : Nat) : Prop :=
  (∀ V, RX V → RSK m V Y P f od es) ∧ (∀ (F : Uf) V V', RX V → uq F V V' → kpf F = true → kok F = true → sokf F = true → rok4 F = true → V'.2.2.2.2.2 114 = V.2.2.2.2.2 114 → V'.2.2.2.2.2 163 = V.2.2.2.2.2 163 → (∀ c, c < lo → V'.2.2.2.2.2 161 c = V.2.2.2.2.2 161 c) → RX V') ∧ ∀ (F : Uf) V V', RX V → uq F V V' → kpf F = true → rok4 F = true → in2 F.n 129 10 = false → in2 F.i 99 9 = false → RSK m V' Y P f od es → V'.2.2.2.2.2 114 = V.2.2.2.2.2 114 → V'.2.2.2.2.2 163 = V.2.2.2.2.2 163 → (∀ c, c < lo → V'.2.2.2.2.2 161 c = V.2.2.2.2.2 161 c) → RX V'
/-- where the parts begin that are asked for next -/
def bsn (Y : Ts) (a N n : Nat) : Nat := if n < N then bse Y a n else 0
/-- sets are asked for -/
def ASK (Y : Ts) (a N n : Nat) : Prop := n = N ∨ (n < N ∧ (tmd (oc Y (a + n)) ∨ ∃ q, bse Y a n ≤ q ∧ q < tpz Y a n ∧ TMZ Y a n q))
/-- the code that is sought -/
def SKC (Y : Ts) (es rs : Nat → Int32) (a N i0 into : Nat) : Prop :=
  (rg Y (im Y i0) false a (a + N) ∧ SRT Y es i0 2 a rs N ∧ i0 < (Y 11).1) ∧ ((Y 0).1 ≤ 14000 ∧ Cc Y ∧ 1 ≤ N ∧ into ≤ 1) ∧ ∀ n, n ≤ N → ∀ k, k < tpz Y a n → ctn (TMZ Y a n) k ≤ 120
def SKS (V : Ud) (Y : Ts) (a N i0 into T : Nat) (E : Nat → Prop) (Q : Nat → Nat → Nat → Prop) (n : Nat) (js : Nat → Option Nat) (sc : Nat) : Prop :=
  n ≤ N ∧ SKI V Y a N i0 into n js sc 0 ∧ NBR js into sc (bsn Y a N n) (tpz Y a n) ∧ ((∀ k, k < tpz Y a n → TMZ Y a n k → ¬ js k = none) ∧ (∀ k, k < bsn Y a N n → k < tpz Y a n → ¬ js k = none → TMZ Y a n k)) ∧ ((∃ k, bsn Y a N n ≤ k ∧ k < tpz Y a n ∧ ¬ js k = none) → ASK Y a N n) ∧ CNT V T E js (tpz Y a n) (Q n)
section SeekState
variable {m P T R wn nf N a i0 into n sc sc' k b : Nat} {Y : Ts} {f od rx mb me : Nat → Nat} {es rs : Nat → Int32} {E : Nat → Prop} {Q : Nat → Nat → Nat → Prop} {js : Nat → Option Nat} {U V : Ud} {RX : Ud → Prop} {F : Uf} {FS : Nat → Nat → Bool}
theorem SKC.pln (h : SKC Y es rs a N i0 into) : PLN Y a N := fun n hn => by
  have := (rg_n (n := n) h.1.1 (by omega)).1
  exact this
theorem SKC.op (h : SKC Y es rs a N i0 into) (hn : n < N) : oc Y (a + n) < 32 := (rg_n (n := n) h.1.1 (by omega)).2 rfl
theorem SKC.one (h : SKC Y es rs a N i0 into) : tpz Y a N = 1 := by
  have z := rg_1 h.1.1
  rw [Nat.add_sub_cancel_left] at z
  exact z
theorem SKC.ev (h : SKC Y es rs a N i0 into) (n : Nat) (hn : n < N) (ho : oc Y (a + n) = 31 ∨ oc Y (a + n) = 34) : ∃ c, plen (oc Y (a + n)) (oa Y (a + n)) = 2 * c := by
  rcases ho with e | e
  · exact ⟨oa Y (a + n), by rw [e]; exact plen_31⟩
  · exact ⟨oa Y (a + n), by rw [e]; exact plen_34⟩
theorem bsn_lt (hn : n < N) : bsn Y a N n = bse Y a n := if_pos hn
theorem bsn_end : bsn Y a N N = 0 := if_neg (Nat.lt_irrefl _)
/-- an operator that asks for sets has one part or two -/
theorem SKC.two (h : SKC Y es rs a N i0 into) (hn : n ≤ N) (ha : ASK Y a N n) : tpz Y a n = bsn Y a N n + 1 ∨ tpz Y a n = bsn Y a N n + 2 := by
  rcases ha with e | ⟨hl, ha⟩
  · rw [e, bsn_end, h.one]; exact Or.inl rfl
  · rw [bsn_lt hl]
    have hb := bse_le h.pln hl
    have hp : 1 ≤ plen (oc Y (a + n)) (oa Y (a + n)) := by
      rcases ha with y | ⟨q, q1, q2, -⟩
      · rcases tmd_two (Or.inl y) with z | z <;> omega
      · omega
    rcases tmd_two (tm_op h.pln h.ev h.1.2.1 hl hp (tmz_new.mpr ha)) with z | z
    · exact Or.inl (by omega)
    · exact Or.inr (by omega)
theorem bsn_le (h : SKC Y es rs a N i0 into) (hn : n ≤ N) : bsn Y a N n ≤ tpz Y a n := by
  by_cases hl : n < N
  · rw [bsn_lt hl]; have := bse_le h.pln hl; omega
  · rw [show n = N by omega, bsn_end]; exact Nat.zero_le _
/-- there is always a set left -/
theorem SKS.room (hC : SKC Y es rs a N i0 into) (h : SKS V Y a N i0 into T E Q n js sc) : sc ≤ 125 := by
  obtain ⟨hn, -, ⟨g1, -⟩, ⟨-, h4⟩, h5, -⟩ := h
  have hle := bsn_le hC hn
  have hc : cna js (bsn Y a N n) ≤ ctn (TMZ Y a n) (bsn Y a N n) := cna_tm (fun k hk hj => h4 k hk (by omega) hj) _ (Nat.le_refl _)
  have hin := hC.2.1.2.2.2
  by_cases ha : ∃ k, bsn Y a N n ≤ k ∧ k < tpz Y a n ∧ ¬ js k = none
  · obtain ⟨k, k1, k2, k3⟩ := ha
    have hA := h5 ⟨k, k1, k2, k3⟩
    have ht := hC.2.2 n hn (bsn Y a N n) (by omega)
    have h2 : cna js (tpz Y a n) ≤ cna js (bsn Y a N n) + 2 := by
      have one : ∀ x, cna js (x + 1) ≤ cna js x + 1 := fun x => by
        by_cases c : js x = none
        · rw [cna_no c]; omega
        · rw [cna_yes c]; exact Nat.le_refl _
      rcases hC.two hn hA with e | e
      · rw [e]; have := one (bsn Y a N n); omega
      · rw [e]; have := one (bsn Y a N n); have : cna js (bsn Y a N n + 2) ≤ cna js (bsn Y a N n + 1) + 1 := one (bsn Y a N n + 1); omega
    omega
  · have hno : ∀ k, bsn Y a N n ≤ k → k < tpz Y a n → js k = none := fun k k1 k2 => Classical.byContradiction (fun y => ha ⟨k, k1, k2, y⟩)
    have := cna_none hno (tpz Y a n - bsn Y a N n) (by omega)
    rw [show bsn Y a N n + (tpz Y a n - bsn Y a N n) = tpz Y a n by omega] at this
    by_cases hlt : bsn Y a N n < tpz Y a n
    · have ht := hC.2.2 n hn (bsn Y a N n) hlt
      omega
    · have hcl : ctn (TMZ Y a n) (bsn Y a N n) ≤ 121 := by
        by_cases h0 : bsn Y a N n = 0
        · rw [h0]; show 0 ≤ 121; omega
        · have ht := hC.2.2 n hn (bsn Y a N n - 1) (by omega)
          rw [show bsn Y a N n = bsn Y a N n - 1 + 1 by omega]
          show ctn (TMZ Y a n) (bsn Y a N n - 1) + @ite Nat (TMZ Y a n (bsn Y a N n - 1)) (Classical.propDecidable _) 1 0 ≤ 121
          by_cases c : TMZ Y a n (bsn Y a N n - 1)
          · rw [if_pos c]; omega
          · rw [if_neg c]; omega
      omega
/-- a new operator is come to -/
theorem SKS.fresh (hn : n ≤ N) (hC : SKC Y es rs a N i0 into) (hI : SKI V Y a N i0 into n js sc 0) (hN : NBR js into sc (tpz Y a n) (tpz Y a n)) (hT : ∀ k, k < tpz Y a n → (¬ js k = none ↔ TMZ Y a n k)) (hc : CNT V T E js (tpz Y a n) (Q n)) : SKS V Y a N i0 into T E Q n js sc := by
  refine ⟨hn, hI, hN.lower (bsn_le hC hn), ⟨fun k hk y => (hT k hk).mpr y, fun k _ hk y => (hT k hk).mp y⟩, fun ⟨k, k1, k2, k3⟩ => ?_, hc⟩
  by_cases hl : n < N
  · rw [bsn_lt hl] at k1
    exact Or.inr ⟨hl, Or.inr ⟨k, k1, k2, (hT k k2).mp k3⟩⟩
  · exact Or.inl (by omega)
/-- the pools stay in order while one set is written -/
theorem PLS.gk {c0 i1 : Nat} (h : PLS U) (hq : uq F U V) (h1 : ∀ c, in2 F.n 161 c = false) (h2 : ∀ c, in2 F.n 163 c = false) (hk : GKQ c0 i1 U V) : PLS V := by
  have none_ : ∀ a c, U.2.2.2.2.2 a c = none → V.2.2.2.2.2 a c = none := fun a c hn => by
    by_cases y : c0 = a ∧ i1 = c
    · obtain ⟨rfl, rfl⟩ := y
      have := hk.2
      rw [hn] at this
      cases hx : V.2.2.2.2.2 c0 i1 with
      | none => rfl
      | some x => rw [hx] at this; cases this
    · rw [hk.1 a c y]; exact hn
  refine ⟨fun c hc => ?_, fun c hc => ?_⟩
  · rcases h.1 c hc with y | ⟨q, y⟩
    · exact Or.inl (none_ 161 c y)
    · exact Or.inr ⟨q, y.gk hq h1 h2 hk⟩
  · rcases h.2 c hc with y | ⟨q, L, y1, y⟩
    · exact Or.inl (none_ 163 c y)
    · exact Or.inr ⟨q, L, y1, y.gk hq h1 h2 hk⟩
/-- a part without sets is left as it is -/
theorem SKS.skip (hC : SKC Y es rs a N i0 into) (h : SKS U Y a N i0 into T E Q n js sc) (hl : n < N) (hno : ∀ k, bse Y a n ≤ k → k < tpz Y a n → js k = none) (hnt : ¬ tmd (oc Y (a + n))) (hQ : ∀ k s, k < bse Y a n → (Q (n + 1) k s ↔ Q n k s)) : SKS (SKB U (bse Y a n) (nI (a + spz Y a (n + 1) (bse Y a n))) (-1) (a + (n + 1))) Y a N i0 into T E Q (n + 1) (upo js (bse Y a n) none) sc := by
  obtain ⟨hn, hI, hN, ⟨h3, h4⟩, h5, h6⟩ := h
  have hb := bse_le hC.pln hl
  rw [bsn_lt hl] at hN h4
  have hNt : NBR js into sc (tpz Y a n) (tpz Y a n) := by
    obtain ⟨g1, g2, g3, g4, g5⟩ := hN
    refine ⟨g1, g2, fun k j _ hk hj => ?_, fun k j hk hk2 => absurd hk2 (by omega), g5⟩
    by_cases c : k < bse Y a n
    · exact g3 k j c hk hj
    · have := hno k (by omega) hk
      rw [this] at hj; cases hj
  have hntb : ¬ TMZ Y a (n + 1) (bse Y a n) := fun y => by
    rcases tmz_new.mp y with z | ⟨q, q1, q2, q3⟩
    · exact hnt z
    · exact h3 q q2 q3 (hno q q1 q2)
  refine SKS.fresh (by omega) hC (hI.next rfl (by omega) rfl rfl rfl rfl rfl hI.1.2.2.2.2.1 hI.1.2.2.2.2.2.1 rfl rfl rfl) (by rw [tpz_bs]; exact hNt.skip (by omega) hno) (fun k hk => ?_) (fun k j hk hj => ?_)
  · rw [tpz_bs] at hk
    by_cases e : k = bse Y a n
    · rw [e, upo_at]
      exact ⟨fun y => absurd rfl y, fun y => absurd y hntb⟩
    · rw [upo_ne e, tmz_old e]
      exact ⟨fun y => h4 k (by omega) (by omega) y, fun y => h3 k (by omega) y⟩
  · rw [tpz_bs] at hk
    by_cases e : k = bse Y a n
    · rw [e, upo_at] at hj; cases hj
    · rw [upo_ne e] at hj
      obtain ⟨q, y1, y2⟩ := h6 k j (by omega) hj
      exact ⟨q, y1, fun s s1 s2 => (y2 s s1 s2).trans (hQ k s (by omega)).symm⟩
/-- sets are joined into one -/
theorem SKS.join (hC : SKC Y es rs a N i0 into) (h : SKS U Y a N i0 into T E Q n js sc) (hl : n < N) (hA : ASK Y a N n) (hQ : ∀ k s, k < bse Y a n → (Q (n + 1) k s ↔ Q n k s)) (h26 : V.1 26 = U.1 26) (i17 : V.2.1 158 17 = U.2.1 158 17) (i18 : V.2.1 158 18 = U.2.1 158 18) (i19 : V.2.1 158 19 = U.2.1 158 19) (i14 : V.2.1 158 14 = U.2.1 158 14) (i4 : V.2.1 158 4 = nI (into + cna js (bse Y a n) + 1)) (i20 : V.2.1 158 20 = nI 0) (hold : ∀ k j, k < bse Y a n → js k = some j → ∀ q, LSN U 161 j q 256 → LSN V 161 j q 256 ∧ lgf V 161 j = lgf U 161 j) (hnew : ∃ q, LSN V 161 (into + cna js (bse Y a n)) q 256 ∧ ∀ s, s < T → E s → (bts (lgf V 161 (into + cna js (bse Y a n))) s = true ↔ Q (n + 1) (bse Y a n) s)) : SKS (SKB V (bse Y a n) (nI (a + spz Y a (n + 1) (bse Y a n))) (nI (into + cna js (bse Y a n))) (a + (n + 1))) Y a N i0 into T E Q (n + 1) (upo js (bse Y a n) (some (into + cna js (bse Y a n)))) (into + cna js (bse Y a n) + 1) := by
  obtain ⟨hn, hI, hN, ⟨h3, h4⟩, h5, h6⟩ := h
  have hb := bse_le hC.pln hl
  rw [bsn_lt hl] at hN h4
  have hnt : TMZ Y a (n + 1) (bse Y a n) := by
    rcases hA with e | ⟨-, y⟩
    · omega
    · exact tmz_new.mpr y
  refine SKS.fresh (by omega) hC (hI.next rfl (by omega) h26 i17 i18 i19 i14 i4 i20 rfl rfl rfl) (by rw [tpz_bs]; exact hN.comb (by omega)) (fun k hk => ?_) (fun k j hk hj => ?_)
  · rw [tpz_bs] at hk
    by_cases e : k = bse Y a n
    · rw [e, upo_at]
      exact ⟨fun _ => hnt, fun _ y => by cases y⟩
    · rw [upo_ne e, tmz_old e]
      exact ⟨fun y => h4 k (by omega) (by omega) y, fun y => h3 k (by omega) y⟩
  · rw [tpz_bs] at hk
    by_cases e : k = bse Y a n
    · rw [e, upo_at] at hj
      cases hj
      obtain ⟨q, y1, y2⟩ := hnew
      exact ⟨q, y1, fun s s1 s2 => by rw [e]; exact y2 s s1 s2⟩
    · rw [upo_ne e] at hj
      obtain ⟨q, y1, y2⟩ := h6 k j (by omega) hj
      obtain ⟨w1, w2⟩ := hold k j (by omega) hj q y1
      exact ⟨q, w1, fun s s1 s2 => by rw [show lgf (SKB V (bse Y a n) (nI (a + spz Y a (n + 1) (bse Y a n))) (nI (into + cna js (bse Y a n))) (a + (n + 1))) 161 j = lgf V 161 j from rfl, w2]; exact (y2 s s1 s2).trans (hQ k s (by omega)).symm⟩
/-- a part has got its set -/
theorem SKS.found (hC : SKC Y es rs a N i0 into) (h : SKS U Y a N i0 into T E Q n js sc) (hA : ASK Y a N n) (hk1 : bsn Y a N n ≤ k) (hk2 : k < tpz Y a n) (hj : js k = none) (h26 : V.1 26 = ax 26 U.1 (nI k) 1 (nI sc) 26) (hi : ∀ j, ¬ j = 4 → ¬ j = 22 → V.2.1 158 j = U.2.1 158 j) (i4 : V.2.1 158 4 = nI (sc + 1)) (hold : ∀ j q, j < sc → LSN U 161 j q 256 → LSN V 161 j q 256 ∧ lgf V 161 j = lgf U 161 j) (hnew : ∃ q, LSN V 161 sc q 256 ∧ ∀ s, s < T → E s → (bts (lgf V 161 sc) s = true ↔ Q n k s)) : SKS V Y a N i0 into T E Q n (upo js k (some sc)) (sc + 1) := by
  obtain ⟨hn, ⟨⟨f1, f2, f3, f4, f5, f6, f7⟩, g1, g2⟩, hN, ⟨h3, h4⟩, h5, h6⟩ := h
  have hkb : k < 2147483648 := by
    have := tpz_le (Y := Y) (a := a) n
    have := hC.1.1.2.1
    have := hC.2.1.1
    omega
  refine ⟨hn, ⟨⟨(hi 16 (by decide) (by decide)).trans f1, (hi 17 (by decide) (by decide)).trans f2, (hi 18 (by decide) (by decide)).trans f3, (hi 19 (by decide) (by decide)).trans f4, i4, (hi 20 (by decide) (by decide)).trans f6, (hi 14 (by decide) (by decide)).trans f7⟩, ?_, fun q hq => ?_⟩, hN.find hk1 hk2 hj, ⟨fun q hq y => ?_, fun q hq hq2 y => ?_⟩, fun _ => hA, fun q j hq hqj => ?_⟩
  · rw [h26, ax_n]; exact g1
  · obtain ⟨y1, y2⟩ := g2 q hq
    rw [h26]
    by_cases e : q = k
    · refine ⟨?_, ?_⟩
      · rw [ax_c (fun _ _ => by decide)]; exact y1
      · rw [e, ax_hit (by rw [g1]; exact hk2) (by decide) hkb, upo_at]; rfl
    · refine ⟨?_, ?_⟩
      · rw [ax_c (fun _ _ => by decide)]; exact y1
      · rw [ax_c (fun _ z => absurd (z.trans (nI_clamp hkb)) e), upo_ne e]; exact y2
  · by_cases e : q = k
    · rw [e, upo_at]; exact fun z => by cases z
    · rw [upo_ne e]; exact h3 q hq y
  · rw [upo_ne (by omega)] at y
    exact h4 q hq hq2 y
  · by_cases e : q = k
    · rw [e, upo_at] at hqj
      cases hqj
      rw [e]
      exact hnew
    · rw [upo_ne e] at hqj
      obtain ⟨p, y1, y2⟩ := h6 q j hq hqj
      obtain ⟨w1, w2⟩ := hold j p (hN.2.1 q j hq hqj).2 y1
      exact ⟨p, w1, fun s s1 s2 => by rw [w2]; exact y2 s s1 s2⟩
end SeekState
