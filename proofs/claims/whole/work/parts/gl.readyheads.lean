/-! READY: what holds at the heads of its loops -/
/-- while branches are made: pieces still to be taken; one branch; several -/
def RJ (V X : Ud) (Y : Ts) (es : Nat → Int32) (P : Nat) (f od : Nat → Nat) (N0 : Nat) (O0 : Nat → (Nat → Bool) × Bool) (sf : Nat) (GX : Nat → Nat → Prop) (i : Nat) : Prop :=
  (i = 0 ∧ ∃ G, RLG V Y es P f od N0 O0 sf 1 (fun _ _ => 0) none 0 0 0 4001 G ∧ ((V.1 23).1 ≤ 4001 ∧ ∀ r, r < (V.1 23).1 → PCT Y es (V.1 23) r) ∧ ∀ s u, s < pd f 0 P → u < pd f 0 P → ((G 0 s u ∧ PND Y X f P od (V.1 23) s u) ↔ GX s u)) ∨
  (i = 1 ∧ ∃ G, RLG V Y es P f od N0 O0 sf 1 (fun _ _ => 0) none 0 0 0 12003 G ∧ ∀ s u, s < pd f 0 P → u < pd f 0 P → (G 0 s u ↔ GX s u)) ∨
  ∃ nb bo q ba bn bi n0 pa pn cnt G GF, (i = nb ∧ 1 < nb) ∧ RLG V Y es P f od N0 O0 sf nb bo (some q) ba bn bi cnt G ∧ BRX V Y es V P f od nb q ba bn bi n0 pa pn G GF (fun _ _ => True) ∧ (cnt ≤ 16384 ∧ (bn = 0 ∨ cnt ≤ 6143)) ∧ ∀ s u, s < pd f 0 P → u < pd f 0 P → (GF s u ↔ GX s u)
/-- rows found for the first q STATES -/
def RDE (V : Ud) (m : Nat) (od : Nat → Nat) (Y : Ts) (es : Nat → Int32) (P : Nat) (f : Nat → Nat) (fb q : Nat) (G : Nat → Nat → Prop) (nf : Nat) (nm tm : Nat → Int32) (bs lv : Nat → Nat) (oid : Nat → Nat → Nat) (nw : Nat) (wa wn wi : Nat → Nat) (wk : Nat → Bool) (nb : Nat) (bo : Nat → Nat → Nat) (cl : Nat → Nat) (al : Nat → Prop) (O1 : Nat → (Nat → Bool) × Bool) : Prop :=
  ∃ N us S z p ro, (∀ j, j < fb → (S j, p j) = O1 j) ∧ RDX V m od Y es P f fb q G N us S z p nf nm tm bs lv (lcz tm lv P) oid nw wa wn wi wk nb bo cl al ro
section ReadyHeads
variable {O0 O1 : Nat → (Nat → Bool) × Bool} {U V W W' X V1 V2 V3 : Ud} {m P nb q ba bn bi n0 N0 sf cnt i fb nf nw : Nat} {Y : Ts} {f od pa pn bs lv wa wn wi cl : Nat → Nat} {es : Nat → Int32} {nm tm : Nat → Int32} {wk : Nat → Bool} {bo oid : Nat → Nat → Nat} {G G2 G3 G1 : Nat → Nat → Nat → Prop} {GF GX PN Gr : Nat → Nat → Prop} {al : Nat → Prop} {t t1 t2 : Tb}
theorem BRX.to (h : BRX V Y es W P f od nb q ba bn bi n0 pa pn G GF PN) (h15 : W'.1 15 = W.1 15) (h98 : W'.2.2.1 99 8 = W.2.2.1 99 8) : BRX V Y es W' P f od nb q ba bn bi n0 pa pn G GF PN := by
  have ht : ∀ a n s u, trs Y W' f P od bi a n s u = trs Y W f P od bi a n s u := fun a n s u => by rw [trs_same h15 h98]
  unfold BRX at h ⊢
  simp only [ht]
  exact h
theorem RJ.le (h : RJ V X Y es P f od N0 O0 sf GX i) : i ≤ 14001 := by
  rcases h with ⟨h, -⟩ | ⟨h, -⟩ | ⟨nb, bo, q, ba, bn, bi, n0, pa, pn, cnt, G, GF, ⟨h, -⟩, -, hX, -⟩
  · omega
  · omega
  · have y := hX.2.2.1.2.2.1
    omega
/-- the lines' own pieces are taken -/
theorem RJ.first (hX : V1.1 15 = X.1 15 ∧ V1.2.2.1 99 8 = X.2.2.1 99 8) (e1 : V2.1 15 = V1.1 15 ∧ V2.2.2.1 99 8 = V1.2.2.1 99 8) (e2 : V3.1 15 = V2.1 15 ∧ V3.2.2.1 99 8 = V2.2.2.1 99 8) (hG : ∀ s u, s < pd f 0 P → u < pd f 0 P → ((G1 0 s u ∧ PND Y X f P od (V1.1 23) s u) ↔ GX s u)) (h1 : ∀ s u, PND Y V1 f P od t1 s u ↔ PND Y V1 f P od (V1.1 23) s u)
    (h2 : ∀ b s u, b < 1 → s < pd f 0 P → u < pd f 0 P → ((G2 b s u ∧ (b + 1 = 1 → PND Y V2 f P od t2 s u)) ↔ (G1 b s u ∧ (b + 1 = 1 → PND Y V2 f P od t1 s u))))
    (h3 : ∀ b s u, b < 1 → s < pd f 0 P → u < pd f 0 P → (G3 b s u ↔ G2 b s u ∧ (b + 1 = 1 → PND Y V3 f P od t2 s u))) (hR : RLG V Y es P f od N0 O0 sf 1 (fun _ _ => 0) none 0 0 0 cnt G3) (hc : cnt ≤ 12003) : RJ V X Y es P f od N0 O0 sf GX 1 := by
  refine Or.inr (Or.inl ⟨rfl, G3, hR.mono hc (fun _ _ _ _ _ _ => Iff.rfl), fun s u hs hu => ?_⟩)
  rw [pass3 e1 e2 h1 h2 h3 0 s u (by decide) hs hu, ← hG s u hs hu, ← pnd_same hX.1 hX.2]
  exact ⟨fun y => ⟨y.1, y.2 rfl⟩, fun y => ⟨y.1, fun _ => y.2⟩⟩
/-- a branch more is taken -/
theorem RJ.more (hB : BRX V1 Y es U P f od nb q ba bn bi n0 pa pn G1 GF (PND Y U f P od (V1.1 23))) (hn : 1 < nb) (hX : V1.1 15 = U.1 15 ∧ V1.2.2.1 99 8 = U.2.2.1 99 8) (e1 : V2.1 15 = V1.1 15 ∧ V2.2.2.1 99 8 = V1.2.2.1 99 8) (e2 : V3.1 15 = V2.1 15 ∧ V3.2.2.1 99 8 = V2.2.2.1 99 8) (e3 : V.1 15 = V3.1 15 ∧ V.2.2.1 99 8 = V3.2.2.1 99 8) (hG : ∀ s u, s < pd f 0 P → u < pd f 0 P → (GF s u ↔ GX s u)) (h1 : ∀ s u, PND Y V1 f P od t1 s u ↔ PND Y V1 f P od (V1.1 23) s u)
    (h2 : ∀ b s u, b < nb → s < pd f 0 P → u < pd f 0 P → ((G2 b s u ∧ (b + 1 = nb → PND Y V2 f P od t2 s u)) ↔ (G1 b s u ∧ (b + 1 = nb → PND Y V2 f P od t1 s u))))
    (h3 : ∀ b s u, b < nb → s < pd f 0 P → u < pd f 0 P → (G3 b s u ↔ G2 b s u ∧ (b + 1 = nb → PND Y V3 f P od t2 s u))) (h22 : V.2.1 129 22 = V1.2.1 129 22) (h27 : ∃ v, V.1 27 = tset 5 (V1.1 27) (nI (nb - 1)) 4 v) (hR : RLG V Y es P f od N0 O0 sf nb bo (some q) ba bn bi cnt G3) (hc : cnt ≤ 16384 ∧ (bn = 0 ∨ cnt ≤ 6143)) : RJ V X Y es P f od N0 O0 sf GX nb := by
  refine Or.inr (Or.inr ⟨nb, bo, q, ba, bn, bi, n0, pa, pn, cnt, G3, GF, ⟨rfl, hn⟩, hR, hB.pass hn (fun b s u hb hs hu => ?_) h22 h27 (e3.1.trans (e2.1.trans (e1.1.trans hX.1))) (e3.2.trans (e2.2.trans (e1.2.trans hX.2))), hc, hG⟩)
  rw [pass3 e1 e2 h1 h2 h3 b s u hb hs hu]
  exact and_congr Iff.rfl (imp_congr Iff.rfl (pnd_same hX.1 hX.2))
/-- what the rows are asked for -/
theorem RDE.ask (h : RDE V m od Y es P f fb q Gr nf nm tm bs lv oid nw wa wn wi wk nb bo cl al O1) (hq : q < pd f 0 P) : (¬ al q ∧ ¬ bts (V.2.2.2.2.1 145) q = true ∧ RDE (upA V 129 6 q (0 : Int32)) m od Y es P f fb (q + 1) Gr nf nm tm bs lv oid nw wa wn wi wk nb bo cl al O1) ∨ ((al q ∧ bts (V.2.2.2.2.1 145) q = true) ∧ ((V.2.2.1 129 7).2 q = nI (cl q) ∧ cl q ≤ pd f 0 P) ∧ ((V.2.2.1 129 8).2 (cl q) = -1 ∨ ∃ r, r < 2147483648 ∧ (V.2.2.1 129 8).2 (cl q) = nI r ∧ RDE (upA V 129 6 q (nI r)) m od Y es P f fb (q + 1) Gr nf nm tm bs lv oid nw wa wn wi wk nb bo cl al O1)) := by
  obtain ⟨N, us, S, z, p, ro, hO, hR⟩ := h
  obtain ⟨h1, h2, h3, ⟨hcl, hcs⟩, ⟨hA, hG⟩, h6, h7, h8⟩ := id hR
  have hb := hA q (by omega)
  by_cases c : al q
  · refine Or.inr ⟨⟨c, hb.mpr ⟨hq, c⟩⟩, hcl q hq, ?_⟩
    rcases h7 (cl q) (hcl q hq).2 with y | ⟨s', y1, y2, y3, y4⟩
    · exact Or.inl y
    · have y5 := (h6 s' y1).2.1
      have y6 : N ≤ 524288 := h1.1.2.2.2.2.2.2.1.1.2.2.2
      exact Or.inr ⟨ro s', by omega, y4, N, us, S, z, p, _, hO, hR.known hq c y1 y2 y3⟩
  · exact Or.inl ⟨c, fun y => c (hb.mp y).2, N, us, S, z, p, _, hO, hR.dead hq c⟩
/-- all rows are there -/
theorem RDE.all (h : RDE V m od Y es P f fb (pd f 0 P) Gr nf nm tm bs lv oid nw wa wn wi wk nb bo cl al O1) : ∃ N us S z p, ∃ ro : Nat → Nat, RDX V m od Y es P f fb (pd f 0 P) Gr N us S z p nf nm tm bs lv (lcz tm lv P) oid nw wa wn wi wk nb bo cl al ro ∧ SOK V N us S z p ∧ V.2.1 113 2 = nI N ∧ V.2.1 113 8 = nI fb ∧ (fb < N ∧ N - fb ≤ pd f 0 P + 1) ∧ (p fb = true ∧ ∀ x, ¬ S fb x = true) ∧ (∀ j, j < fb → (S j, p j) = O1 j) ∧ ∀ s, s < pd f 0 P → (V.2.2.1 129 6).2 s = nI (ro s) ∧ ro s < N - fb ∧ ∀ x, S (fb + ro s) x = true ↔ x < pd f 0 P ∧ bts (V.2.2.2.2.1 124) x = true ∧ Gr s x := by
  obtain ⟨N, us, S, z, p, ro, hO, hX⟩ := h
  obtain ⟨h1, ⟨g1, g2, g3, g4, g5⟩, h3, h4, h5, h6, h7, h8⟩ := id hX
  have hS := h1.1.2.2.2.2.2.2.1
  exact ⟨N, us, S, z, p, ro, hX, hS, hS.1.2.2.1, g4, ⟨g2, by omega⟩, ⟨h8.1, g5⟩, hO, fun s hs => ⟨(h6 s hs).1, by have y := (h6 s hs).2.1; omega, (h6 s hs).2.2⟩⟩
end ReadyHeads
