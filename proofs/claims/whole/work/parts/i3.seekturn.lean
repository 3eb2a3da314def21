/-! SEEKING: one turn of seekOn, with what it means -/
/-- the world while something is sought -/
def SKW (V : Ud) (m : Nat) (RX : Ud → Prop) (T R wn : Nat) (rx mb me : Nat → Nat) (nf : Nat) (FS : Nat → Nat → Bool) (L4 L8 : Nat → Int64) (Y : Ts) : Prop :=
  RX V ∧ GRB V T R wn rx mb me ∧ FST V nf T FS ∧ PLS V ∧ (V.2.2.2.1 158 22 = none ∧ V.2.1 147 15 = -1) ∧ (V.2.2.2.2.1 124 = L4 ∧ V.2.2.2.2.1 148 = L8) ∧ V.1 0 = Y 0 ∧ V.2.2.2.1 99 0 = some m
def Fsb : Uf := ⟨[26], [(158, 16)], [], [], [], false⟩
section SeekTurn
variable {H : mu_H} {U V : Ud} {m d P T R wn nf N a i0 into n sc : Nat} {C : Nat → Nat} {Y : Ts} {f od rx mb me : Nat → Nat} {es rs : Nat → Int32} {E : Nat → Prop} {Q : Nat → Nat → Nat → Prop} {js : Nat → Option Nat} {RX : Ud → Prop} {F : Uf} {FS : Nat → Nat → Bool} {L4 L8 : Nat → Int64} {Φ : mu_R → Prop} {c0 i1 : Nat}
theorem SKW.keep (hW : WRL RX m od Y es P f into) (h : SKW U m RX T R wn rx mb me nf FS L4 L8 Y) (hq : uq F U V) (h0 : kpf F = true) (h1 : kok F = true) (h2 : sokf F = true) (h3 : rok4 F = true) (h4 : grok F = true) (h5 : in2 F.a 147 10 = false) (h6 : in2 F.i 99 19 = false) (h7 : in2 F.a 113 3 = false) (h8 : in2 F.n 158 22 = false) (h9 : in2 F.i 147 15 = false) (h10 : in1 F.l 124 = false) (h11 : in1 F.t 0 = false) (h12 : in2 F.n 99 0 = false) (h13 : ∀ c, in2 F.n 161 c = false) (h14 : ∀ c, in2 F.n 163 c = false) (hk : GKQ c0 i1 U V) (ha : ¬ c0 = 114 ∧ ¬ c0 = 163) (hlo : c0 = 161 → into ≤ i1) (h48 : V.2.2.2.2.1 148 = U.2.2.2.2.1 148) : SKW V m RX T R wn rx mb me nf FS L4 L8 Y := by
  obtain ⟨k1, k2, k3, k4, ⟨k5, k6⟩, ⟨k7, k8⟩, k9, k10⟩ := h
  exact ⟨hW.2.1 F U V k1 hq h0 h1 h2 h3 (funext fun c => hk.1 114 c (fun z => ha.1 z.1)) (funext fun c => hk.1 163 c (fun z => ha.2 z.1)) (fun c hc => hk.1 161 c (fun z => by have := hlo z.1; have := z.2; omega)), k2.keep hq h4 (NK.of_eq (hq.a 147 10 h5)), k3.eq (hq.i 99 19 h6) (hq.a 113 3 h7) (fun c => hk.1 114 c (fun z => ha.1 z.1)), k4.gk hq h13 h14 hk, ⟨(hq.r 158 22 h8).trans k5, (hq.i 147 15 h9).trans k6⟩, ⟨(hq.l 124 h10).trans k7, h48.trans k8⟩, (hq.t 0 h11).trans k9, (hq.r 99 0 h12).trans k10⟩
theorem skb_uq {b a1 : Nat} {x y : Int32} : uq Fsb U (SKB U b x y a1) := (((uq.refl Fsb U).ac rfl).ap rfl).I rfl
theorem SKW.skb {b a1 : Nat} {x y : Int32} (hW : WRL RX m od Y es P f into) (h : SKW U m RX T R wn rx mb me nf FS L4 L8 Y) : SKW (SKB U b x y a1) m RX T R wn rx mb me nf FS L4 L8 Y := SKW.keep (c0 := 0) (i1 := 0) hW h skb_uq rfl rfl rfl rfl rfl rfl rfl rfl rfl rfl rfl rfl rfl (fun _ => rfl) (fun _ => rfl) (GKQ.of_eq rfl) (by decide) (fun z => absurd z (by decide)) rfl
theorem SKS.jb (hC : SKC Y es rs a N i0 into) (h : SKS U Y a N i0 into T E Q n js sc) (k : Nat) (hk : k < tpz Y a n) (j : Nat) (hj : js k = some j) : j < 2147483648 := by
  have := h.room hC
  have := (h.2.2.1.2.1 k j hk hj).2
  omega
theorem SKI.st {sg : Nat} (hC : SKC Y es rs a N i0 into) (h : SKI U Y a N i0 into n js sc sg) (hl : n < N) : (plen (oc Y (a + n)) (oa Y (a + n)) = 0 → a + spz Y a (n + 1) (bse Y a n) = a + n) ∧ (¬ plen (oc Y (a + n)) (oa Y (a + n)) = 0 → (U.1 26).2 (bse Y a n) 0 = nI (a + spz Y a (n + 1) (bse Y a n))) := by
  have hb := bse_le hC.pln hl
  rw [spz_b]
  refine ⟨fun y => by rw [if_pos ⟨rfl, y⟩], fun y => ?_⟩
  rw [if_neg (fun z => y z.2)]
  exact (h.2.2 (bse Y a n) (by omega)).1
theorem SKC.ok (hC : SKC Y es rs a N i0 into) (hl : n < N) : (Y 0).2 (a + n) 0 = nI (oc Y (a + n)) ∧ oc Y (a + n) ≤ 34 ∧ (oc Y (a + n) = 30 ∨ oc Y (a + n) = 31 ∨ oc Y (a + n) = 33 ∨ oc Y (a + n) = 34 → (Y 0).2 (a + n) 1 = nI (oa Y (a + n)) ∧ 1 ≤ oa Y (a + n) ∧ oa Y (a + n) ≤ 16777216) := okc_n hC.2.1.2.1 (by have := hC.1.1.2.1; omega)
/-- the bounds that the walks ask for -/
theorem SKC.bnd (hC : SKC Y es rs a N i0 into) (hn : n ≤ N) : a + N < 2147483646 ∧ tpz Y a n < 2147483646 ∧ tpz Y a n ≤ N := by
  have := hC.1.1.2.1
  have := hC.2.1.1
  have := tpz_le (Y := Y) (a := a) n
  omega
/-- nothing is asked for -/
theorem sk_t1 (h : um m H) (e : ud m H = U) (hC : SKC Y es rs a N i0 into) (hS : SKS U Y a N i0 into T E Q n js sc) (hw : SKW U m RX T R wn rx mb me nf FS L4 L8 Y) (hW : WRL RX m od Y es P f into) (hl : n < N) (hna : ¬ ASK Y a N n) (hC26 : 4 * (N + 2) + 2 ≤ C 26) (hC26b : C 26 ≤ 8388608) (hQ : ∀ k s, k < bse Y a n → (Q (n + 1) k s ↔ Q n k s)) (hback : ∀ H3, um m H3 → ur m C H H3 → SKS (ud m H3) Y a N i0 into T E Q (n + 1) (upo js (bse Y a n) none) sc → SKW (ud m H3) m RX T R wn rx mb me nf FS L4 L8 Y → mu_W (mu_D (d + 8)) mu_m342 (8, [(0, .inr (.inr (some 158))), (1, .inr (.inr (some m)))], [], H3) Φ) : mu_W (mu_D (d + 8)) mu_m342 (8, [(0, .inr (.inr (some 158))), (1, .inr (.inr (some m)))], [], H) Φ := by
  have hno : ∀ k, bse Y a n ≤ k → k < tpz Y a n → js k = none := fun k k1 k2 => Classical.byContradiction (fun y => hna (hS.2.2.2.2.1 ⟨k, by rw [bsn_lt hl]; exact k1, k2, y⟩))
  have hnt : ¬ tmd (oc Y (a + n)) := fun y => hna (Or.inr ⟨hl, Or.inl y⟩)
  have h0 : U.1 0 = Y 0 := hw.2.2.2.2.2.2.1
  have hok := hC.ok hl
  have hbd := hC.bnd hS.1
  have hb := bse_le hC.pln hl
  obtain ⟨⟨f1, f2, f3, f4, f5, f6, f7⟩, g1, g2⟩ := hS.2.1
  refine sk_skip (d := d) (C := C) (o := oc Y (a + n)) (pa := oa Y (a + n)) (pl := plen (oc Y (a + n)) (oa Y (a + n))) (b := bse Y a n) (sz := tpz Y a n) (at0 := a + n) (to0 := a + N) (st0 := a + spz Y a (n + 1) (bse Y a n)) (ar := (Y 0).2 (a + n) 1) h e f1 f2 (by omega) (by omega) (fun _ => by rw [h0]; exact hok.1) (fun y => absurd y (by omega)) (by rw [h0]) hok.2.1 rfl (fun y => (hok.2.2 y).1) (fun y => (hok.2.2 y).2.2) g1 (by omega) hb (hS.2.1.st hC hl) (by omega) hnt ?_ (by omega) hC26b (fun H3 u3 r3 d3 => ?_)
  · refine (pr_hasSet (d := d + 6) (js := js) h e (by omega) (by omega) (fun k hk => (g2 k (by omega)).2) (fun k hk => hS.jb hC k (by omega))).imp (fun x H1 q => ?_)
    rcases q with ⟨-, ⟨k, k1, k2, k3⟩, -⟩ | ⟨q1, -, q3⟩
    · exact absurd (hno k k1 (by omega)) k3
    · exact ⟨q1, q3.symm⟩
  · exact hback H3 u3 r3 (by rw [d3]; exact hS.skip hC hl hno hnt hQ) (by rw [d3]; exact hw.skb hW)
/-- sets are asked for: to where they are looked for -/
theorem sk_t0 {sg : Nat} (h : um m H) (e : ud m H = U) (hC : SKC Y es rs a N i0 into) (hI : SKI U Y a N i0 into n js sc sg) (hjb : ∀ k, k < tpz Y a n → ∀ j, js k = some j → j < 2147483648) (h3 : ∀ k, k < tpz Y a n → TMZ Y a n k → ¬ js k = none) (h0 : U.1 0 = Y 0) (hl : n < N) (hA : ASK Y a N n) (hj : mu_W (mu_D (d + 8)) mu_m342 (133, [(0, .inr (.inr (some 158))), (1, .inr (.inr (some m))), (2, .inl (nI (oc Y (a + n)))), (3, .inl (nI (plen (oc Y (a + n)) (oa Y (a + n))))), (4, .inl (nI (bse Y a n))), (5, .inl (nI (a + spz Y a (n + 1) (bse Y a n)))), (6, .inl (-1 : Int32))], [], H) Φ) : mu_W (mu_D (d + 8)) mu_m342 (8, [(0, .inr (.inr (some 158))), (1, .inr (.inr (some m)))], [], H) Φ := by
  have hok := hC.ok hl
  have hbd := hC.bnd (n := n) (by omega)
  have hb := bse_le hC.pln hl
  have hst := hI.st hC hl
  obtain ⟨⟨f1, f2, f3, f4, f5, f6, f7⟩, g1, g2⟩ := hI
  refine sk_front (d := d) (o := oc Y (a + n)) (pa := oa Y (a + n)) (pl := plen (oc Y (a + n)) (oa Y (a + n))) (b := bse Y a n) (sz := tpz Y a n) (at0 := a + n) (to0 := a + N) (st0 := a + spz Y a (n + 1) (bse Y a n)) (ar := (Y 0).2 (a + n) 1) h e f1 f2 (by omega) (by omega) (fun _ => by rw [h0]; exact hok.1) (fun y => absurd y (by omega)) (by rw [h0]) hok.2.1 rfl (fun y => (hok.2.2 y).1) (fun y => (hok.2.2 y).2.2) g1 (by omega) hb hst (fun _ hnt => ?_) hj
  obtain ⟨q, q1, q2, q3⟩ : ∃ q, bse Y a n ≤ q ∧ q < tpz Y a n ∧ TMZ Y a n q := by
    rcases hA with y | ⟨-, y | y⟩
    · omega
    · exact absurd y hnt
    · exact y
  refine (pr_hasSet (d := d + 6) (js := js) h e (by omega) (by omega) (fun k hk => (g2 k (by omega)).2) (fun k hk => hjb k (by omega))).imp (fun x H1 y => ?_)
  rcases y with ⟨y1, -, y3⟩ | ⟨-, y2, -⟩
  · exact ⟨y1, y3.symm⟩
  · exact absurd (y2 q q1 (by omega)) (h3 q q2 q3)
end SeekTurn
