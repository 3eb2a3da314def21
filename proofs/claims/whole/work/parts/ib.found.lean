/-! DRIVE: the truth of a part is reckoned -/
/-- what the leaves are in a STATE -/
def lvq (Y : Ts) (U : Ud) (f : Nat → Nat) (P : Nat) (od : Nat → Nat) (i0 s : Nat) : Nat → Int32 := lvl Y (vst U f P s) (vst U f P s) (evz Y od (vst U f P s)) i0
def Ftr : Uf := ⟨[], [], [], [(158, 22)], [], false⟩
section PartValue
variable {U V U0 U00 : Ud} {Y : Ts} {f od rx mb me : Nat → Nat} {m d P T R wn nf N a n k i i0 into s j sc q : Nat} {es rs : Nat → Int32} {H : mu_H} {C : Nat → Nat} {js : Nat → Option Nat} {RX : Ud → Prop} {FS : Nat → Nat → Bool} {L4 L8 : Nat → Int64} {E Fr : Nat → Prop} {G Fs : Nat → Nat → Prop} {Φ : mu_R → Prop}
theorem vst_eq (h15 : V.1 15 = U.1 15) (h98 : V.2.2.1 99 8 = U.2.2.1 99 8) : vst V f P s = vst U f P s := funext fun w => by unfold vst; rw [h15, h98]
theorem lvq_eq (h15 : V.1 15 = U.1 15) (h98 : V.2.2.1 99 8 = U.2.2.1 99 8) : lvq Y V f P od i0 s = lvq Y U f P od i0 s := by unfold lvq; rw [vst_eq h15 h98]
theorem kdz_no (h : ∀ n, n < N → oc Y (a + n) < 32) : ∀ n, n ≤ N → ∀ k, kdz Y a n k = false
  | 0, _, _ => rfl
  | n + 1, hn, k => by
    have ih := kdz_no h n (by omega) k
    have ho := h n (by omega)
    show (if k = tpz Y a n - plen (oc Y (a + n)) (oa Y (a + n)) then decide (32 ≤ oc Y (a + n)) else kdz Y a n k) = false
    by_cases c : k = tpz Y a n - plen (oc Y (a + n)) (oa Y (a + n))
    · rw [if_pos c]; exact decide_eq_false (by omega)
    · rw [if_neg c]; exact ih
theorem SBC.slo (h : SBC Y a j N) : ∀ n, j + n ≤ N → ∀ k, k < tpz Y a j → stk Y rs a (j + n) k = stk Y rs a j k
  | 0, _, _, _ => rfl
  | n + 1, hn, k, hk => by
    have ih := SBC.slo h n (by omega) k hk
    have h2 := h.2.2 (j + n + 1) (by omega) (by omega)
    rw [tpz_s] at h2
    show (if k = tpz Y a (j + n) - plen (oc Y (a + (j + n))) (oa Y (a + (j + n))) then rs (j + n) else stk Y rs a (j + n) k) = _
    rw [if_neg (by omega)]
    exact ih
theorem part_sk (h : PLN Y a N) (hn : n ≤ N) (hk : k < tpz Y a n) : stk Y (fun x => rs (spz Y a n k + x)) (a + spz Y a n k) (epz Y a n k - spz Y a n k) 0 = stk Y rs a n k := by
  obtain ⟨i1, i2, i3⟩ := spz_at h n hn k hk
  obtain ⟨j1, j2, j3, j4⟩ := epz_at h hn hk
  have hS := part_sbc h hn hk
  have ht := hS.tp (epz Y a n k - spz Y a n k) (by omega)
  rw [show spz Y a n k + (epz Y a n k - spz Y a n k) = epz Y a n k by omega] at ht
  rw [hS.sk (epz Y a n k - spz Y a n k) (by omega) 0 (by omega), show spz Y a n k + (epz Y a n k - spz Y a n k) = epz Y a n k by omega, i2, Nat.zero_add]
  have hS2 : SBC Y a (epz Y a n k) n := ⟨j2, fun x hx => h x (by omega), fun x x1 x2 => by rw [j3]; exact j4 x x1 x2⟩
  have := hS2.slo (rs := rs) (n - epz Y a n k) (by omega) k (by omega)
  rw [show epz Y a n k + (n - epz Y a n k) = n by omega] at this
  exact this.symm
/-- a part that is a truth is 0 or 1 -/
theorem part_01 (hC : SKC Y es rs a N i0 into) (hK : KNV m V Y P f od es) (hn : n ≤ N) (hk : k < tpz Y a n) (ht : ¬ TMZ Y a n k) (h1 : stk Y rs a n k = 1) : svz Y (lvq Y V f P od i0 s) a n k = 0 ∨ svz Y (lvq Y V f P od i0 s) a n k = 1 := by
  obtain ⟨kd', hr⟩ := part_rg hC.1.1 hC.pln hn hk
  have hs := part_srt hC.pln hC.1.2.1 hn hk ht
  obtain ⟨j1, j2, j3, j4⟩ := epz_at hC.pln hn hk
  obtain ⟨i1, i2, i3⟩ := spz_at hC.pln n hn k hk
  have hSB := part_sbc hC.pln hn hk
  have htp := hSB.tp (epz Y a n k - spz Y a n k) (by omega)
  rw [show spz Y a n k + (epz Y a n k - spz Y a n k) = epz Y a n k by omega] at htp
  have hJ : JW Y := hK.2.2.2.1.1
  have hTY : TYP Y es := hK.2.2.2.1.2.1
  have hNU : NUM Y := hK.2.2.2.1.2.2.1
  have hv : VLS Y (vst V f P s) := VLS_vst hK.2.2.2.2.2.1 hK.P14 hK.2.1
  have hop : ∀ x, x < epz Y a n k - spz Y a n k → oc Y (a + spz Y a n k + x) < 32 := fun x hx => by
    rw [Nat.add_assoc]
    exact hC.op (by omega)
  have hty := typ_n (lv := lvq Y V f P od i0 s) hC.2.1.2.1 hr hs (by decide) (fun x hx ho => ?_) (epz Y a n k - spz Y a n k) (Nat.le_refl _) 0 (by omega) (kdz_no hop _ (Nat.le_refl _) 0)
  · rw [part_sk hC.pln hn hk, part_sv hC.pln (fun x hx => hC.op hx) hn hk, h1] at hty
    exact hty.1 rfl
  · have hb := hC.1.1.2.1
    exact lvl_cfm hJ hNU (by omega) ((hs x hx).2.1 (by unfold plen; rw [if_pos ho])) hv hv (fun e2 he _ => evz_all hJ hK.2.2.2.2.1 hTY hNU hv he)
/-- a truth has been waited for: it is reckoned -/
theorem dr_found (h : um m H) (hC : SKC Y es rs a N i0 into) (hW : WRL RX m od Y es P f into) (hX : ∀ V, RX V → V.1 15 = U00.1 15 ∧ V.2.2.1 99 8 = U00.2.2.1 99 8) (hT : T = pd f 0 P) (hle : ∀ n, n < N → plen (oc Y (a + n)) (oa Y (a + n)) = 0 → ¬ rs n = 9) (hroot : stk Y rs a N 0 = 1 ∨ stk Y rs a N 0 = 9) (hF : FND (ud m H) m RX T R wn rx mb me nf FS L4 L8 Y P f od es a N i0 into E (CTS Y G E Fr nf Fs (lvq Y U00 f P od i0) a) U0 n js sc k q) (hi : i < 1073741824) (hback : ∀ H3, um m H3 → ur m C H H3 → SKS (ud m H3) Y a N i0 into T E (CTS Y G E Fr nf Fs (lvq Y U00 f P od i0) a) n (upo js k (some sc)) (sc + 1) → SKW (ud m H3) m RX T R wn rx mb me nf FS L4 L8 Y → mu_W (mu_D (d + 20)) mu_m376 (2, [(1, .inl (nI (i + 1))), (0, .inr (.inr (some 0)))], [], H3) Φ) : mu_W (mu_D (d + 20)) mu_m376 (2, [(1, .inl (nI i)), (0, .inr (.inr (some 0)))], [], H) Φ := by
  obtain ⟨⟨hS, hA, ⟨hk1, hk2⟩, hj⟩, ⟨c1, c2, c3, c4⟩, ⟨l1, htr, hKL⟩, r1, r2, r3, r4, r5, ⟨r6, r7⟩, r8, r9⟩ := hF
  have hn := hS.1
  have hrm := hS.room hC
  have hnt : ¬ TMZ Y a n k := fun y => hS.2.2.2.1.1 k hk2 y hj
  obtain ⟨kd', hr⟩ := part_rg hC.1.1 hC.pln hn hk2
  have hs0 := part_srt hC.pln hC.1.2.1 hn hk2 hnt
  obtain ⟨j1, j2, j3, j4⟩ := epz_at hC.pln hn hk2
  have hqb := LSN.ltzL h rfl l1
  refine dr_truth (d := d) (C := C) (PV := fun H1 => uq F257g (ud m H) (ud m H1) ∧ LSN (ud m H1) 161 sc q 256 ∧ GKP 161 sc (ud m H) (ud m H1) ∧ RSKL m (ud m H1) Y P f od es (a + spz Y a n k) (epz Y a n k - spz Y a n k) i0 ∧ (∀ s, s < pd f 0 P → (bts (lgf (ud m H1) 161 sc) s = true ↔ ¬ tru Y (ud m H) f P od i0 (a + spz Y a n k) (epz Y a n k - spz Y a n k) s = 0))) h rfl hi r5 htr (by omega) ((sp_taskG (d := d + 13) (C := C) h rfl hKL hC.1.2.2 hr hs0 l1).imp (fun H1 y => ⟨y.1, y.2.1, y.2.2⟩)) (fun H2 H3 u2 t2 hPV u3 t3 d3 => ?_)
  obtain ⟨y1, y2, y3, y4, y5⟩ := hPV
  have hKW : RSK m (ud m H2) Y P f od es := y4.kk (by have := hC.1.1.2.1; omega) hC.1.2.2
  have hR2 : RX (ud m H2) := hW.2.2 F257g (ud m H) (ud m H2) r1 y1 rfl rfl rfl rfl hKW (funext fun c => y3.2.1 114 c (fun z => absurd z.1 (by decide))) (funext fun c => y3.2.1 163 c (fun z => absurd z.1 (by decide))) (fun c hc => y3.2.1 161 c (fun z => by have := hS.2.2.1.1; have := z.2; omega))
  have q3 : uq Ftr (ud m H2) (ud m H3) := by
    rw [d3]
    exact (uq.refl Ftr _).R rfl
  have ep3 : (ud m H3).2.2.2.2.2 = (ud m H2).2.2.2.2.2 := by rw [d3]; rfl
  have hR3 : RX (ud m H3) := hW.2.1 Ftr (ud m H2) (ud m H3) hR2 q3 rfl rfl rfl rfl (by rw [ep3]) (by rw [ep3]) (fun c _ => by rw [ep3])
  have hkq : GKQ 161 sc (ud m H) (ud m H3) := y3.toQ.trans (GKQ.of_eq ep3)
  have hG3 : GRB (ud m H3) T R wn rx mb me := (r2.keep y1 rfl (NK.of_eq (y1.a 147 10 rfl))).keep q3 rfl (NK.of_eq (q3.a 147 10 rfl))
  have hF3 : FST (ud m H3) nf T FS := r3.eq ((q3.i 99 19 rfl).trans (y1.i 99 19 rfl)) ((q3.a 113 3 rfl).trans (y1.a 113 3 rfl)) (fun c => hkq.1 114 c (fun z => absurd z.1 (by decide)))
  have hP3 : PLS (ud m H3) := (r4.gk y1 (fun _ => rfl) (fun _ => rfl) y3.toQ).gk q3 (fun _ => rfl) (fun _ => rfl) (GKQ.of_eq (a := 0) (i := 0) ep3)
  have hw3 : SKW (ud m H3) m RX T R wn rx mb me nf FS L4 L8 Y := ⟨hR3, hG3, hF3, hP3, ⟨by rw [d3]; rfl, (q3.i 147 15 rfl).trans ((y1.i 147 15 rfl).trans r5)⟩, ⟨(q3.l 124 rfl).trans ((y1.l 124 rfl).trans r6), (q3.l 148 rfl).trans ((y3.1 148 (Or.inl rfl) (fun z => absurd z.1 (by decide))).trans r7)⟩, (q3.t 0 rfl).trans ((y1.t 0 rfl).trans r8), (q3.r 99 0 rfl).trans ((y1.r 99 0 rfl).trans r9)⟩
  have l3 : LSN (ud m H3) 161 sc q 256 := y2.gk q3 (fun _ => rfl) (fun _ => rfl) (GKQ.of_eq (a := 0) (i := 0) ep3)
  have e3 : lgf (ud m H3) 161 sc = lgf (ud m H2) 161 sc := by
    funext x
    unfold lgf
    rw [if_neg (by decide), if_neg (by decide), ep3]
  refine hback H3 u3 t3 (hS.found hC hA hk1 hk2 hj ((q3.t 26 rfl).trans ((y1.t 26 rfl).trans c1)) (fun x x1 x2 => (q3.i 158 x rfl).trans ((y1.i 158 x rfl).trans (c2 x x1 x2))) ((q3.i 158 4 rfl).trans ((y1.i 158 4 rfl).trans c3)) (fun x p hx y => ?_) ⟨q, l3, fun s s1 s2 => ?_⟩) hw3
  · obtain ⟨z1, z2⟩ := c4 x p hx y
    have hne : ¬ x = sc := by omega
    exact ⟨(z1.gk y1 (fun _ => rfl) (fun _ => rfl) y3.toQ).gk q3 (fun _ => rfl) (fun _ => rfl) (GKQ.of_eq (a := 0) (i := 0) ep3), (lgf_ne hkq ⟨by decide, fun z => hne z.2⟩).trans z2⟩
  · rw [e3, y5 s (by omega), cts_plain n k hk2 hnt]
    obtain ⟨x1, x2⟩ := hX (ud m H) r1
    rw [← lvq_eq x1 x2, ← part_sv hC.pln (fun x hx => hC.op hx) hn hk2]
    show ¬ svz Y (lvq Y (ud m H) f P od i0 s) (a + spz Y a n k) (epz Y a n k - spz Y a n k) 0 = 0 ↔ _
    have h01 := part_01 (s := s) hC hKL.1 hn hk2 hnt (part_truth hC hle hroot hn hA hk1 hk2 hnt)
    rw [← part_sv hC.pln (fun x hx => hC.op hx) hn hk2] at h01
    rcases h01 with z | z
    · rw [z]; decide
    · rw [z]; decide
end PartValue
