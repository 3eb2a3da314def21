/-! SEEKING: a part is found without a set -/
def Fvd (sc : Nat) : Uf := ⟨[26], [(158, 4)], [], [(161, sc), (158, 22)], [], true⟩
/-- a part waits for its truth: the data before, and what has come to it -/
def FND (V : Ud) (m : Nat) (RX : Ud → Prop) (T R wn : Nat) (rx mb me : Nat → Nat) (nf : Nat) (FS : Nat → Nat → Bool) (L4 L8 : Nat → Int64) (Y : Ts) (P : Nat) (f od : Nat → Nat) (es : Nat → Int32) (a N i0 into : Nat) (E : Nat → Prop) (Q : Nat → Nat → Nat → Prop) (U0 : Ud) (n : Nat) (js : Nat → Option Nat) (sc k q : Nat) : Prop :=
  (SKS U0 Y a N i0 into T E Q n js sc ∧ ASK Y a N n ∧ (bsn Y a N n ≤ k ∧ k < tpz Y a n) ∧ js k = none) ∧
  (V.1 26 = ax 26 U0.1 (nI k) 1 (nI sc) 26 ∧ (∀ j, ¬ j = 4 → ¬ j = 22 → V.2.1 158 j = U0.2.1 158 j) ∧ V.2.1 158 4 = nI (sc + 1) ∧ ∀ j q, j < sc → LSN U0 161 j q 256 → LSN V 161 j q 256 ∧ lgf V 161 j = lgf U0 161 j) ∧
  (LSN V 161 sc q 256 ∧ V.2.2.2.1 158 22 = some q ∧ RSKL m V Y P f od es (a + spz Y a n k) (epz Y a n k - spz Y a n k) i0) ∧
  RX V ∧ GRB V T R wn rx mb me ∧ FST V nf T FS ∧ PLS V ∧ V.2.1 147 15 = -1 ∧ (V.2.2.2.2.1 124 = L4 ∧ V.2.2.2.2.1 148 = L8) ∧ V.1 0 = Y 0 ∧ V.2.2.2.1 99 0 = some m
section SeekFind
variable {H : mu_H} {U V W W1 : Ud} {m d P T R wn nf N a i0 into n sc k q0 b o pl st0 : Nat} {C : Nat → Nat} {Y : Ts} {f od rx mb me : Nat → Nat} {es rs : Nat → Int32} {E : Nat → Prop} {Q : Nat → Nat → Nat → Prop} {js : Nat → Option Nat} {RX : Ud → Prop} {F : Uf} {FS : Nat → Nat → Bool} {L4 L8 : Nat → Int64} {Φ : mu_R → Prop}
theorem fv_in : in2 (Fvd sc).n 161 sc = true := List.any_eq_true.mpr ⟨(161, sc), List.mem_cons.mpr (Or.inl rfl), by show (Nat.beq 161 161 && Nat.beq sc sc) = true; rw [Nat.beq_refl, Nat.beq_refl]; rfl⟩
theorem PLS.new (h : PLS W) (hsc : sc < 248) : PLS (upR (upC W 161 sc 256) 161 sc (some q0)) := by
  refine ⟨fun c hc => ?_, fun c hc => ?_⟩
  · by_cases e : c = sc
    · rw [e]; exact Or.inr ⟨q0, nw_lsn (Or.inl rfl) (plp161 hsc)⟩
    · rcases h.1 c hc with y | ⟨q, y⟩
      · exact Or.inl ((nw_ne (fun z => e z.2)).trans y)
      · exact Or.inr ⟨q, (nw_keep y (fun z => e z.2)).1⟩
  · rcases h.2 c hc with y | ⟨q, L, y1, y⟩
    · exact Or.inl ((nw_ne (fun z => absurd z.1 (by decide))).trans y)
    · exact Or.inr ⟨q, L, y1, (nw_keep y (fun z => absurd z.1 (by decide))).1⟩
/-- what comes to the data behind the loading -/
theorem fv_161 {c : Nat} (h1 : W1 = W ∨ (W.2.2.2.2.2 161 sc = none ∧ W1 = upR (upC W 161 sc 256) 161 sc (some q0))) (hV : V = upR (upT (upI W1 158 4 (nI (sc + 1))) (ax 26 W1.1 (nI k) 1 (nI sc))) 158 22 (some q0)) (hc : ¬ c = sc) : V.2.2.2.2.2 161 c = W.2.2.2.2.2 161 c := by
  rw [hV]
  show W1.2.2.2.2.2 161 c = _
  rcases h1 with y | ⟨-, y⟩
  · rw [y]
  · rw [y]
    exact nw_ne (fun z => hc (by have := z.2; omega))
theorem fv_data (hsc : sc < 248) (h1 : W1 = W ∨ (W.2.2.2.2.2 161 sc = none ∧ W1 = upR (upC W 161 sc 256) 161 sc (some q0))) (hV : V = upR (upT (upI W1 158 4 (nI (sc + 1))) (ax 26 W1.1 (nI k) 1 (nI sc))) 158 22 (some q0)) (hP : PLS W) : uq (Fvd sc) W V ∧ (V.2.2.2.2.2 114 = W.2.2.2.2.2 114 ∧ V.2.2.2.2.2 163 = W.2.2.2.2.2 163) ∧ PLS V ∧ V.1 26 = ax 26 W.1 (nI k) 1 (nI sc) 26 ∧ (∀ j, ¬ j = 4 → V.2.1 158 j = W.2.1 158 j) ∧ V.2.1 158 4 = nI (sc + 1) ∧ V.2.2.2.1 158 22 = some q0 ∧ (∀ j q, ¬ j = sc → LSN W 161 j q 256 → LSN V 161 j q 256 ∧ lgf V 161 j = lgf W 161 j) ∧ V.2.2.2.2.1 = W.2.2.2.2.1 := by
  have w1 : uq (Fvd sc) W W1 ∧ (W1.2.2.2.2.2 114 = W.2.2.2.2.2 114 ∧ W1.2.2.2.2.2 163 = W.2.2.2.2.2 163) ∧ PLS W1 ∧ W1.1 = W.1 ∧ W1.2.1 = W.2.1 ∧ (∀ j q, ¬ j = sc → LSN W 161 j q 256 → LSN W1 161 j q 256 ∧ lgf W1 161 j = lgf W 161 j) ∧ W1.2.2.2.2.1 = W.2.2.2.2.1 := by
    rcases h1 with y | ⟨-, y⟩
    · rw [y]; exact ⟨uq.refl _ _, ⟨rfl, rfl⟩, hP, rfl, rfl, fun _ _ _ z => ⟨z, rfl⟩, rfl⟩
    · rw [y]
      refine ⟨⟨fun _ _ => rfl, fun _ _ _ => rfl, fun _ _ _ => rfl, fun p j hj => ⟨rfl, ?_⟩, fun _ _ => rfl, fun hp => absurd (show true = false from hp) (by decide)⟩, ⟨funext fun c => nw_ne (fun z => absurd z.1 (by decide)), funext fun c => nw_ne (fun z => absurd z.1 (by decide))⟩, hP.new hsc, rfl, rfl, fun j q hj z => nw_keep z (fun w => hj w.2), rfl⟩
      show (if p = 161 ∧ j = sc then some q0 else W.2.2.2.1 p j) = _
      rw [if_neg (in2_ne fv_in hj)]
  obtain ⟨k1, k2, k3, k4, k5, k6, k7⟩ := w1
  have q2 : uq (Fvd sc) W V := by
    rw [hV]
    exact ((k1.I rfl).ax rfl).R rfl
  refine ⟨q2, by rw [hV]; exact k2, ?_, by rw [hV]; show ax 26 W1.1 (nI k) 1 (nI sc) 26 = _; rw [k4], fun j hj => ?_, by rw [hV]; rfl, by rw [hV]; rfl, fun j q hj y => ?_, by rw [hV]; exact k7⟩
  · rw [hV]
    refine ⟨fun c hc => ?_, fun c hc => ?_⟩
    · rcases k3.1 c hc with y | ⟨q, y⟩
      · exact Or.inl y
      · exact Or.inr ⟨q, y.keep (fun b c hb => by rcases hb with rfl | rfl <;> rfl) rfl⟩
    · rcases k3.2 c hc with y | ⟨q, L, y1, y⟩
      · exact Or.inl y
      · exact Or.inr ⟨q, L, y1, y.keep (fun b c hb => by rcases hb with rfl | rfl <;> rfl) rfl⟩
  · rw [hV]
    show (if 158 = 158 ∧ j = 4 then nI (sc + 1) else W1.2.1 158 j) = _
    rw [if_neg (fun z => hj z.2), k5]
  · rw [hV]
    obtain ⟨y1, y2⟩ := k6 j q hj y
    exact ⟨y1.keep (fun b c hb => by rcases hb with rfl | rfl <;> rfl) rfl, y2⟩
theorem pen_epz : pen (tpz Y a n) (a + n) (fun k => a + spz Y a n k) k = a + epz Y a n k := by
  unfold pen epz
  by_cases c : k + 1 < tpz Y a n
  · rw [if_pos c, if_pos c]
  · rw [if_neg c, if_neg c]
/-- a part has to be reckoned first: seekOn ends here -/
theorem sk_t2 (h : um m H) (e : ud m H = U) (hC : SKC Y es rs a N i0 into) (hS : SKS U Y a N i0 into T E Q n js sc) (hw : SKW U m RX T R wn rx mb me nf FS L4 L8 Y) (hW : WRL RX m od Y es P f into) (hA : ASK Y a N n) (hb : b = bsn Y a N n) (hun : ∃ k, b ≤ k ∧ k < tpz Y a n ∧ js k = none) (hC1 : 2 * (((Y 13).1 + 2) * 4) + 4 ≤ C 21) (hC2 : C 21 ≤ 8388608) (hret : ∀ H1, um m H1 → ur m C H H1 → (∃ k q, FND (ud m H1) m RX T R wn rx mb me nf FS L4 L8 Y P f od es a N i0 into E Q U n js sc k q) → Φ (.inl none, H1)) : mu_W (mu_D (d + 8)) mu_m342 (133, [(0, .inr (.inr (some 158))), (1, .inr (.inr (some m))), (2, .inl (nI o)), (3, .inl (nI pl)), (4, .inl (nI b)), (5, .inl (nI st0)), (6, .inl (-1 : Int32))], [], H) Φ := by
  have hbd := hC.bnd hS.1
  have hrm := hS.room hC
  have hble := bsn_le hC hS.1
  obtain ⟨w1, w2, w3, w4, ⟨w5, w6⟩, ⟨w7, w8⟩, w9, w10⟩ := id hw
  obtain ⟨⟨f1, f2, f3, f4, f5, f6, f7⟩, g1, g2⟩ := hS.2.1
  have hK := hW.1 U w1
  refine sk_find (PV := fun H1 => um m H1 ∧ ur m C H H1 ∧ ∃ k q, FND (ud m H1) m RX T R wn rx mb me nf FS L4 L8 Y P f od es a N i0 into E Q U n js sc k q) h e (fun H1 y => hret H1 y.1 y.2.1 y.2.2) ((pr_findPart (d := d + 2) (C := C) (sz := tpz Y a n) (at0 := a + n) (st := fun k => a + spz Y a n k) (js := js) h e hK w4 hC1 hC2 f5 (by omega) f1 (by have := hS.1; omega) f3 hC.1.2.2 g1 (by omega) (by omega) (fun k hk => (g2 k hk).2) (fun k hk => hS.jb hC k hk) (fun k hk => ⟨(g2 k hk).1, ?_⟩) (fun k hk hj => ?_)).imp (fun x H1 y => ?_))
  · have := (spz_at hC.pln n hS.1 k hk).1
    have := hS.1
    show a + spz Y a n k < 2147483648
    omega
  · obtain ⟨kd', hr⟩ := part_rg hC.1.1 hC.pln hS.1 hk
    refine ⟨[kd'], epz Y a n k - spz Y a n k, rgs_of hr, ?_⟩
    rw [pen_epz]
    have := (epz_at hC.pln hS.1 hk).1
    show a + epz Y a n k = a + spz Y a n k + (epz Y a n k - spz Y a n k)
    omega
  · rcases y with ⟨-, y2, -⟩ | ⟨y1, u1, r1, k, n2, q, W, W1, ⟨k1, k2⟩, hj, -, hen, hq, hKL, hW1, hset, hV⟩
    · obtain ⟨k, k1, k2, k3⟩ := hun
      exact absurd k3 (y2 k k1 k2)
    · refine ⟨y1, u1, r1, k, q, ?_⟩
      have hn2 : n2 = epz Y a n k - spz Y a n k := by
        rw [pen_epz] at hen
        have hen : a + epz Y a n k = a + spz Y a n k + n2 := hen
        omega
      have hPW : PLS W := w4.keepq hq (fun _ => rfl) (fun _ => rfl) rfl
      obtain ⟨v1, ⟨v2, v10⟩, v3, v4, v5, v6, v7, v8, v9⟩ := fv_data (k := k) (by omega) hW1 hV hPW
      have hset2 : LSN (ud m H1) 161 sc q 256 := by
        rw [hV]
        exact hset.keep (fun b c hb => by rcases hb with rfl | rfl <;> rfl) rfl
      have hKW : RSK m W Y P f od es := hKL.kk (by have := hC.1.1.2.1; have := (epz_at hC.pln hS.1 k2).2.1; have := (epz_at hC.pln hS.1 k2).1; have := hS.1; show a + spz Y a n k + n2 ≤ (Y 0).1; omega) hC.1.2.2
      have hRW : RX W := hW.2.2 F203 U W w1 hq rfl rfl rfl rfl hKW (congrFun (hq.2.2.2.2.2 rfl) 114) (congrFun (hq.2.2.2.2.2 rfl) 163) (fun c _ => congrFun (congrFun (hq.2.2.2.2.2 rfl) 161) c)
      rw [hn2] at hKL
      exact ⟨⟨hS, hA, ⟨by omega, k2⟩, hj⟩, ⟨by rw [v4, ax_at, ax_at, hq.t 26 rfl], fun j j1 j2 => (v5 j j1).trans (hq.i 158 j rfl), v6, fun j p hj2 y => by
        obtain ⟨z1, z2⟩ := v8 j p (by omega) (y.q hq (fun _ => rfl) (fun _ => rfl) rfl)
        exact ⟨z1, z2.trans (lsf_q y hq rfl rfl rfl)⟩⟩, ⟨hset2, v7, hKL.q v1 rfl rfl⟩, hW.2.1 (Fvd sc) W _ hRW v1 rfl rfl rfl rfl v2 v10 (fun c hc => fv_161 hW1 hV (by have := hS.2.2.1.1; omega)), (w2.keep hq rfl (NK.of_eq (hq.a 147 10 rfl))).keep v1 rfl (NK.of_eq (v1.a 147 10 rfl)), (w3.eq (hq.i 99 19 rfl) (hq.a 113 3 rfl) (fun c => congrFun (congrFun (hq.2.2.2.2.2 rfl) 114) c)).eq (v1.i 99 19 rfl) (v1.a 113 3 rfl) (fun c => congrFun v2 c), v3, (v1.i 147 15 rfl).trans ((hq.i 147 15 rfl).trans w6), ⟨(v1.l 124 rfl).trans ((hq.l 124 rfl).trans w7), (v1.l 148 rfl).trans ((hq.l 148 rfl).trans w8)⟩, (v1.t 0 rfl).trans ((hq.t 0 rfl).trans w9), (v1.r 99 0 rfl).trans ((hq.r 99 0 rfl).trans w10)⟩
end SeekFind
