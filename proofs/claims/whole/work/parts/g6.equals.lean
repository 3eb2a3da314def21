/-! RELATION: takeEquals -/
/-- a piece next(x) = E or next(x) in {..}: what stands beside next -/
def EQS (Y : Ts) (es : Nat → Int32) (i a n A1 N1 r w mo : Nat) (Lk : List Bool) (rs : Nat → Int32) : Prop := (a ≤ A1 ∧ A1 + N1 ≤ a + n) ∧ rch Y r i = nI w ∧ (sp Y (im Y i) 6 ≤ r ∧ r < sp Y (im Y i + 1) 6) ∧ w < (Y 15).1 ∧ rgs Y (im Y i) Lk A1 (A1 + N1) ∧ (1 ≤ mo ∧ Lk.length = mo) ∧ (¬ true ∈ Lk ∧ SRT Y es i 1 A1 rs N1) ∧ ∀ (U : Ud) (m P : Nat) (f od : Nat → Nat) (mk : Int32) (pl : Nat), KNV m U Y P f od es → LDW U Y P f od A1 N1 i → U.2.1 100 4 = mk → ¬ NXW Y (U.1 15) P A1 N1 i → (U.1 15).2 w 2 = nI pl → pl < 14 → ∀ s t, (CHSw Y U f P od false A1 N1 i s ((U.2.2.1 99 8).2 (sm f 0 pl + dgzU f P t pl)) ↔ trs Y U f P od i a (n + 1) s t = 1)
section TakeEquals
variable {O0 : Nat → (Nat → Bool) × Bool} {H : mu_H} {U V : Ud} {m d P N0 sf nb ba bn bi N us nf nw ou a n i k r s u cnt : Nat} {C : Nat → Nat} {Y : Ts} {f od bs lv wa wn wi z : Nat → Nat} {wk : Nat → Bool} {es : Nat → Int32} {nm tm : Nat → Int32} {mk : Int32} {bo oid : Nat → Nat → Nat} {S : Nat → Nat → Bool} {p : Nat → Bool} {br : Option Nat} {G0 : Nat → Nat → Nat → Prop} {t : Tb}
theorem eqm_step {g e p p' X q : Prop} (h : (g ∧ (e → p)) ↔ q) (hp : p ↔ p' ∧ X) : ((g ∧ (e → X)) ∧ (e → p')) ↔ q := by
  rw [← h, hp]
  exact ⟨fun ⟨⟨a, b⟩, c⟩ => ⟨a, fun y => ⟨c y, b y⟩⟩, fun ⟨a, b⟩ => ⟨⟨a, fun y => (b y).2⟩, fun y => (b y).1⟩⟩
theorem next_ref {x : Nat} (hW : JW Y) (hi : i < (Y 11).1) (hw : WTC Y es a n i) (hx : x < n) (ho : oc Y (a + x) = 3) : ∃ r w, (Y 0).2 (a + x) 1 = nI r ∧ oa Y (a + x) = r ∧ (sp Y (im Y i) 6 ≤ r ∧ r < sp Y (im Y i + 1) 6) ∧ rch Y r i = nI w ∧ w < (Y 15).1 ∧ (Y 9).2 r 2 = 3 := by
  obtain ⟨hr, rs, hs, hst⟩ := hw
  obtain ⟨r, er, r1, r2⟩ := rg_ref hr hW hx (Or.inr ho)
  obtain ⟨w, w1, w2, w3⟩ := lvl_next hs hx ho
  have hi0 : r < 2147483648 := by
    have y := hr.2.2.2 (a + x) (by omega) (by omega) (Or.inr (by rw [oc_w hW (by have := hr.2.1; omega), ho]; rfl))
    obtain ⟨r', y1, y2, y3⟩ := y
    apply Nat.lt_of_not_le
    intro hge
    have hb9 := hW.2.2.2.2.2.2 9 (by decide)
    obtain ⟨-, -, -, hm, -⟩ := hW.inst hi
    obtain ⟨lr1, lr2, lr3⟩ := hW.le hm (c := 6) (j := 9) (by decide) (by decide) rfl
    omega
  have eoa : oa Y (a + x) = r := by
    unfold oa
    rw [er]
    exact nI_clamp hi0
  rw [eoa] at w2 w3
  exact ⟨r, w, er, eoa, ⟨r1, r2⟩, w2, w1, w3⟩
theorem eqs_l (hW : JW Y) (hi : i < (Y 11).1) (hw : WTC Y es a (n + 1) i) (ho : oc Y (a + n) = 16 ∨ oc Y (a + n) = 30) (hn : 1 ≤ n) (h3 : oc Y a = 3) (hS : SBC Y a 1 n) : ∃ r w mo Lk rs, EQS Y es i a n (a + 1) (n - 1) r w mo Lk rs ∧ (Y 0).2 a 1 = nI r ∧ (oc Y (a + n) = 30 → (Y 0).2 (a + n) 1 = nI mo) ∧ (¬ oc Y (a + n) = 30 → mo = 1) := by
  obtain ⟨hr, rs, hs, hst⟩ := id hw
  obtain ⟨-, -, -, hkM, -⟩ := hW.inst hi
  obtain ⟨r, w, e1, e2, e3, e4, e5, e6⟩ := next_ref (x := 0) hW hi hw (by omega) h3
  rw [Nat.add_zero] at e1 e2
  have hcc := hW.2.2.2.2.2.1.2
  have hb := hr.2.1
  have hmo : ∃ mo, 1 ≤ mo ∧ mo + 1 = plen (oc Y (a + n)) (oa Y (a + n)) ∧ (oc Y (a + n) = 30 → (Y 0).2 (a + n) 1 = nI mo) ∧ (¬ oc Y (a + n) = 30 → mo = 1) := by
    rcases ho with y | y
    · exact ⟨1, Nat.le_refl _, by rw [y]; rfl, fun z => absurd (y.symm.trans z) (by decide), fun _ => rfl⟩
    · obtain ⟨kk, q1, q2, -, q4⟩ := hcc (a + n) (by omega)
      have hk : oc Y (a + n) = kk := by
        unfold oc
        rw [q2]
        exact nI_clamp (by omega)
      obtain ⟨q, z1, z2, z3⟩ := q4 (Or.inl (hk.symm.trans y))
      have ea : oa Y (a + n) = q := by
        unfold oa
        rw [z3]
        exact nI_clamp (by omega)
      exact ⟨q, z1, by rw [y, ea]; rfl, fun _ => z3, fun z => absurd y z⟩
  obtain ⟨mo, m1, m2, m3, m4⟩ := hmo
  obtain ⟨Lk, L1, L2, L3⟩ : ∃ Lk : List Bool, rgs Y (im Y i) Lk (a + 1) (a + n) ∧ Lk.length + 1 = plen (oc Y (a + n)) (oa Y (a + n)) ∧ ¬ true ∈ Lk := by
    have hE := rg_E hr
    have hv := rg_pl hr
    have htp1 : tpz Y a (n + 1) = 1 := by have y := rg_1 hr; rw [Nat.add_sub_cancel_left] at y; exact y
    have hvn := hv n (by omega)
    rw [tpz_s] at htp1
    have e1' : tpz Y a 1 = 1 := by show 0 - plen (oc Y (a + 0)) (oa Y (a + 0)) + 1 = 1; omega
    have hT := hS.tp (n - 1) (by omega)
    rw [show 1 + (n - 1) = n by omega, e1'] at hT
    obtain ⟨g1, g2, g3, g4⟩ := id hr
    rw [Nat.add_sub_cancel_left] at g3
    obtain ⟨R, eR⟩ := kst_le g3 (show 1 ≤ n + 1 by omega)
    obtain ⟨Ln, eL⟩ := kst_le g3 (show n ≤ n + 1 by omega)
    have fL := kst_f g3 (by simp) (x := 1) (n := n) (by omega) eL
    obtain ⟨L', k1, k2⟩ := hS.ks eL eR (n - 1) (by omega)
    rw [show 1 + (n - 1) = n by omega, eL] at k2
    have k3 := Option.some.inj k2
    exact ⟨L', ⟨by omega, by omega, by rw [show a + n - (a + 1) = n - 1 by omega]; exact k1, fun q q1 q2 => g4 q (by omega) (by omega)⟩, by rw [kst_tp k1]; omega, fun y => fL (by rw [k3]; exact List.mem_append_left _ y)⟩
  have hs2 : SRT Y es i 1 (a + 1) (fun q => rs (1 + q)) (n - 1) := hS.srt (N := n) (fun q hq => hs q (by omega)) (by omega)
  have eAN : a + 1 + (n - 1) = a + n := by omega
  refine ⟨r, w, mo, Lk, fun q => rs (1 + q), ⟨⟨by omega, by omega⟩, e4, e3, e5, by rw [eAN]; exact L1, ⟨m1, by omega⟩, ⟨L3, hs2⟩, fun U m P f od mk pl hK hl hmk hnx hpc hpl s t => ?_⟩, e1, m3, m4⟩
  have hh := (eq_left (U := U) (f := f) (P := P) (od := od) hK hi hr ho hs hn h3 hS (by rw [e2]; exact e4) e5 (by rw [e2]; exact e6)).2.2 (fun s t => no_next (s := s) (t := t) hK hl hmk hnx hi (Lk := Lk) (by rw [eAN]; exact L1)) s t
  rw [hw.t1 hK, hh, vst_pl hpc hpl]
theorem eqs_r (hW : JW Y) (hi : i < (Y 11).1) (hw : WTC Y es a (n + 1) i) (ho : oc Y (a + n) = 16) (hn : 1 ≤ n) (h3 : oc Y (a + n - 1) = 3) : ∃ r w Lk rs, EQS Y es i a n a (n - 1) r w 1 Lk rs ∧ (Y 0).2 (a + n - 1) 1 = nI r := by
  obtain ⟨hr, rs, hs, hst⟩ := id hw
  have en : n - 1 + 2 = n + 1 := by omega
  have en1 : a + (n - 1 + 1) = a + n := by omega
  have en0 : a + n - 1 = a + (n - 1) := by omega
  rw [en0] at h3
  obtain ⟨r, w, e1, e2, e3, e4, e5, e6⟩ := next_ref (x := n - 1) hW hi hw (by omega) h3
  have hr2 : rg Y (im Y i) false a (a + (n - 1 + 2)) := by rw [en]; exact hr
  have hs2 : SRT Y es i 1 a rs (n - 1 + 2) := by rw [en]; exact hs
  have ho2 : oc Y (a + (n - 1 + 1)) = 16 := by rw [en1]; exact ho
  have hpl2 : plen (oc Y (a + (n - 1 + 1))) (oa Y (a + (n - 1 + 1))) = 2 := by rw [ho2]; rfl
  have hpl0 : plen (oc Y (a + (n - 1))) (oa Y (a + (n - 1))) = 0 := by rw [h3]; rfl
  obtain ⟨j, j0, j1, h2, hj1, j3, hS, r1, r2⟩ := two_parts hr2 hpl2
  have htn : tpz Y a (n - 1 + 1) = tpz Y a (n - 1) + 1 := by rw [tpz_s, hpl0]; omega
  have ejn : j = n - 1 := by
    apply Nat.le_antisymm (by omega)
    apply Nat.le_of_not_lt
    intro hlt
    have y := j3 (n - 1) hlt (by omega)
    omega
  rw [ejn] at r1
  refine ⟨r, w, [false], rs, ⟨⟨Nat.le_refl _, by omega⟩, e4, e3, e5, rgs_of r1, ⟨Nat.le_refl _, rfl⟩, ⟨by simp, fun q hq => hs q (by omega)⟩, fun U m P f od mk pl hK hl hmk hnx hpc hpl s t => ?_⟩, by rw [en0]; exact e1⟩
  have hh := (eq_right (U := U) (f := f) (P := P) (od := od) (n := n - 1) hK hi hr2 ho2 hs2 h3 (by rw [e2]; exact e4) e5 (by rw [e2]; exact e6)).2.2 (fun s t => no_next (s := s) (t := t) hK hl hmk hnx hi (Lk := [false]) (rgs_of r1)) s t
  rw [en] at hh
  rw [hw.t1 hK, hh, vst_pl hpc hpl]
def F291 : Uf := ⟨[21, 22, 23, 24, 25], [(100, 4), (100, 5), (100, 6), (100, 7), (100, 17), (100, 18), (100, 21), (100, 19), (100, 20), (100, 14), (100, 16), (113, 1), (113, 2), (129, 11), (129, 19), (129, 20), (129, 5)], [(100, 3), (100, 8), (100, 12), (100, 13), (100, 15), (129, 14), (100, 9), (100, 10), (100, 11), (113, 3), (113, 4), (129, 10), (129, 4)], [(100, 3), (100, 8), (100, 12), (100, 13), (100, 15), (113, 3), (129, 4)], [117, 146], true⟩
def F291x : Uf := ⟨[21, 22, 23], [(100, 4), (100, 5), (100, 6), (100, 7), (100, 17)], [(100, 3), (100, 8), (100, 12), (100, 13), (100, 15)], [(100, 3), (100, 8), (100, 12), (100, 13), (100, 15)], [], false⟩
theorem hi_zero {x : Int32} {P : Nat} (ht : ∀ k, k < 32 → ¬ mb x k = 0 → k < 28 ∧ k % 14 < P) (h : (x.toUInt32 >>> ((14 : Int32).toUInt32 &&& Int32.toUInt32 31)).toInt32 = 0) : ∀ k, 14 ≤ k → k < 28 → mb x k = 0 := by
  obtain ⟨n, n1, n2, n3⟩ := mask_high (x := x) (fun k k1 k2 => Decidable.not_not.mp (fun y => by have := (ht k k2 y).1; omega))
  intro k k1 k2
  have hn : n = 0 := nI_inj (a := n) (b := 0) (by omega) (by omega) (n2.symm.trans h)
  have y := n3 (k - 14) (by omega)
  rw [show k - 14 + 14 = k by omega, hn] at y
  rw [← y]
  exact mb_0 _ (by omega)
def F291a : Uf := ⟨[21, 22, 23, 24, 25], [(100, 4), (100, 5), (100, 6), (100, 7), (100, 17), (100, 18), (100, 21), (100, 19), (100, 20), (100, 14), (100, 16), (113, 1), (113, 2), (129, 11), (129, 19), (129, 20), (129, 5)], [(100, 3), (100, 8), (100, 12), (100, 13), (100, 15), (129, 14), (100, 9), (100, 10), (100, 11), (113, 3), (113, 4), (129, 10), (129, 4)], [(100, 3), (100, 8), (100, 12), (100, 13), (100, 15), (113, 3), (129, 4)], [117, 146], true⟩
/-- PathProver$Relation.takeEquals()V -/
abbrev mu_m291 : ev_M := (11, none, [], ev_b291)
theorem mu_g291 : mu_good mu_m291 := mu_goodk ev_k291
theorem rl_equals (h : um m H) (e : ud m H = U) (hK : RSK m U Y P f od es) (hR : RLG U Y es P f od N0 O0 sf nb bo br ba bn bi cnt G0) (hPC : ∀ r, r < (U.1 23).1 → PCT Y es (U.1 23) r) (hsz : (U.1 23).1 ≤ 4001) (hcn : cnt + (U.1 23).1 ≤ 16384) (hN00 : N0 ≤ 100000) (hsf : sf ≤ 1300000) (hC21 : 2 * (((Y 13).1 + 2) * 4) + 4 ≤ C 21) (hC21b : C 21 ≤ 8388608) (hC24 : 200000 ≤ C 24) (hC24b : C 24 ≤ 8388608) (hC25 : 170000 ≤ C 25) (hC25b : C 25 ≤ 8388608) : mu_TV (mu_D (d + 9)) 291 [.inr (.inr (some 129))] H (fun H1 => um m H1 ∧ ur m C H H1 ∧ uq F291 U (ud m H1) ∧ RSK m (ud m H1) Y P f od es ∧ ((ud m H1).1 23).1 = (U.1 23).1 ∧ (∀ r, r < ((ud m H1).1 23).1 → PCT Y es ((ud m H1).1 23) r) ∧ ∃ G, RLG (ud m H1) Y es P f od N0 O0 sf nb bo br ba bn bi (cnt + (U.1 23).1) G ∧ ∀ b s u, b < nb → s < pd f 0 P → u < pd f 0 P → ((G b s u ∧ (b + 1 = nb → PND Y U f P od ((ud m H1).1 23) s u)) ↔ (G0 b s u ∧ (b + 1 = nb → PND Y U f P od (U.1 23) s u)))) := by
  have hD : MDL Y es := hK.1.2.2.2.1
  have hCc : Cc Y := hD.1.2.2.2.2.2.1.2
  obtain ⟨hb13, hb0, hb15, hb16, hb17⟩ := hD.2.2.2.1
  have hY11 : (Y 11).1 ≤ 67108864 := hD.1.2.2.2.2.2.2 11 (by decide)
  have hmo : U.2.2.2.1 99 0 = some m := hK.1.1.2.2.2.2.2
  have hsp : U.2.2.2.1 100 0 = some 99 := hK.1.1.2.2.2.2.1
  have hj0U : U.1 0 = Y 0 := hK.1.2.2.1.1 0 (by decide)
  refine mu_meth (M := mu_m291) rfl rfl ?_
  refine mw_ht (mu_fn_of (show [0].Nodup by decide)) ?_
  refine mw_go mu_g291 (k := 2) (f1 := (4, [(0, .inr (.inr (some 129)))], [.inr (.inr (mu_r H 129 0))], H)) (C := [mu_is H (some 129) 9]) rfl (show mu_is H (some 129) 9 from (h.1.1.is rfl)) ?_
  rw [(h.1.1.r (p := 129) (j := 0) (q := 99) rfl)]
  refine mw_go mu_g291 (k := 1) (f1 := (7, [(0, .inr (.inr (some 129)))], [.inr (.inr (mu_r H 99 0))], H)) (C := [mu_is H (some 99) 13]) rfl (show mu_is H (some 99) 13 from (h.1.1.is rfl)) ?_
  rw [(show mu_r H 99 0 = (some m) from (ud_q (U := U) (m := m) (P := 99) (j := 0) e rfl).trans hmo)]
  refine mw_go mu_g291 (k := 3) (f1 := (10, [(2, .inl (0 : Int32)), (1, .inr (.inr (some m))), (0, .inr (.inr (some 129)))], [], H)) (C := []) rfl trivial ?_
  show mu_W _ _ (10, [(2, .inl (nI 0)), (1, .inr (.inr (some m))), (0, .inr (.inr (some 129)))], [], H) _
  refine mw_sub (L' := [(2, .inl (nI 0)), (0, .inr (.inr (some 129))), (1, .inr (.inr (some m)))]) (by simp) ?_
  refine mw_down (α := Nat × mu_H) (fun zs => (10, [(2, .inl (nI zs.1)), (0, .inr (.inr (some 129))), (1, .inr (.inr (some m)))], [], zs.2)) (fun zs => (U.1 23).1 - zs.1) (fun zs => um m zs.2 ∧ ur m C H zs.2 ∧ (uq F291a U (ud m zs.2)) ∧ (zs.1 ≤ ((ud m zs.2).1 23).1) ∧ (True ∧ ((ud m zs.2).1 23).1 = (U.1 23).1) ∧ (RSK m (ud m zs.2) Y P f od es) ∧ (∀ r, r < ((ud m zs.2).1 23).1 → PCT Y es ((ud m zs.2).1 23) r) ∧ (∃ G, RLG (ud m zs.2) Y es P f od N0 O0 sf nb bo br ba bn bi (cnt + zs.1) G ∧ ∀ b s u, b < nb → s < pd f 0 P → u < pd f 0 P → ((G b s u ∧ (b + 1 = nb → PND Y U f P od ((ud m zs.2).1 23) s u)) ↔ (G0 b s u ∧ (b + 1 = nb → PND Y U f P od (U.1 23) s u))))) (fun zs hza iha => ?_) (0, H) ⟨h, (ur.refl m C H), (show uq F291a U (ud m H) from by rw [e]; exact uq.refl _ _), (show 0 ≤ ((ud m H).1 23).1 from by rw [e]; exact (Nat.zero_le _)), (show True ∧ ((ud m H).1 23).1 = (U.1 23).1 from by rw [e]; exact ⟨trivial, rfl⟩), (show RSK m (ud m H) Y P f od es from by rw [e]; exact hK), (show ∀ r, r < ((ud m H).1 23).1 → PCT Y es ((ud m H).1 23) r from by rw [e]; exact hPC), (show ∃ G, RLG (ud m H) Y es P f od N0 O0 sf nb bo br ba bn bi (cnt + 0) G ∧ ∀ b s u, b < nb → s < pd f 0 P → u < pd f 0 P → ((G b s u ∧ (b + 1 = nb → PND Y U f P od ((ud m H).1 23) s u)) ↔ (G0 b s u ∧ (b + 1 = nb → PND Y U f P od (U.1 23) s u))) from by rw [e]; exact ⟨G0, hR, fun b s u _ _ _ => Iff.rfl⟩)⟩
  obtain ⟨k, Hsa⟩ := zs
  obtain ⟨ua, hta, da, hk, hszE, hKN, hPCa, hRG⟩ := hza
  have ua : um m Hsa := ua
  have hta : ur m C H Hsa := hta
  have zza : uq F291a U (ud m Hsa) := da
  have hk : k ≤ ((ud m Hsa).1 23).1 := hk
  have hszE : True ∧ ((ud m Hsa).1 23).1 = (U.1 23).1 := hszE
  have hKN : RSK m (ud m Hsa) Y P f od es := hKN
  have hPCa : ∀ r, r < ((ud m Hsa).1 23).1 → PCT Y es ((ud m Hsa).1 23) r := hPCa
  have hRG : ∃ G, RLG (ud m Hsa) Y es P f od N0 O0 sf nb bo br ba bn bi (cnt + k) G ∧ ∀ b s u, b < nb → s < pd f 0 P → u < pd f 0 P → ((G b s u ∧ (b + 1 = nb → PND Y U f P od ((ud m Hsa).1 23) s u)) ↔ (G0 b s u ∧ (b + 1 = nb → PND Y U f P od (U.1 23) s u))) := hRG
  obtain ⟨Va, da⟩ : ∃ V, ud m Hsa = V := ⟨_, rfl⟩
  rw [da] at zza hk hszE hKN hPCa hRG
  have qfa : uq F291 U Va := (uq.refl F291 U).tr zza rfl
  show mu_W _ _ (10, [(2, .inl (nI k)), (0, .inr (.inr (some 129))), (1, .inr (.inr (some m)))], [], Hsa) _
  refine mw_go mu_g291 (k := 3) (f1 := (15, [(2, .inl (nI k)), (0, .inr (.inr (some 129))), (1, .inr (.inr (some m)))], [.inr (.inr (mu_r Hsa 129 2)), .inl (nI k)], Hsa)) (C := [mu_is Hsa (some 129) 9]) rfl (show mu_is Hsa (some 129) 9 from (ua.1.1.is rfl)) ?_
  rw [(ua.1.1.r (p := 129) (j := 2) (q := 118) rfl)]
  refine mw_go mu_g291 (k := 1) (f1 := (18, [(2, .inl (nI k)), (0, .inr (.inr (some 129))), (1, .inr (.inr (some m)))], [.inl (mu_i Hsa 118 2), .inl (nI k)], Hsa)) (C := [mu_is Hsa (some 118) 10]) rfl (show mu_is Hsa (some 118) 10 from (ua.1.1.is rfl)) ?_
  rw [(show mu_i Hsa 118 2 = (nI (Va.1 23).1) from (ua.size da (j := 23) (by decide) rfl).trans (congrArg (fun z => nI z.1) (show Va.1 23 = (Va.1 23) from rfl)))]
  refine mw_if (P := (nI k) < (nI (Va.1 23).1)) (a := 21) (b := 248) (fun _ => rfl) trivial (fun h1 => ?_) (fun h1 => ?_)
  · -- 21: (nI k) < (nI (Va.1 23).1)
    have nh1 : k < ((Va.1 23).1) := (nI_ltI (by omega) (by omega)).mp (show nI k < nI ((Va.1 23).1) from h1)
    have hPk := hPCa k (by omega)
    have hPk3 := hPk.2.2.1
    rcases hPk.2.2.2 with hrn0 | hwk0
    · -- an empty piece
      refine mw_go mu_g291 (k := 2) (f1 := (23, [(2, .inl (nI k)), (0, .inr (.inr (some 129))), (1, .inr (.inr (some m)))], [.inl (nI k), .inr (.inr (some 129))], Hsa)) (C := []) rfl trivial ?_
      refine mw_cIe (fun _ => rfl) (show mu_is Hsa (some 129) 9 from (ua.1.1.is rfl)) (rl_sideE (d := (d + 5)) (k := k) (a := (rwa (Va.1 23) k)) ua da (show (Va.2.2.2.1 99 0) = some m from ((zza.r 99 0 rfl).trans hmo)) (by omega) hPk.1.1 (by have y := hPk.1.2.1; rw [hrn0, Nat.add_zero] at y; exact y) (by omega)) ?_
      refine mw_go mu_g291 (k := 2) (f1 := (28, [(3, .inl (0 : Int32)), (2, .inl (nI k)), (0, .inr (.inr (some 129))), (1, .inr (.inr (some m)))], [.inl (0 : Int32)], Hsa)) (C := []) rfl trivial ?_
      refine mw_if (P := (0 : Int32) = 0) (a := 31) (b := 34) (fun _ => rfl) trivial (fun h3 => ?_) (fun h3 => absurd (by decide) h3)
      refine mw_go mu_g291 (k := 1) (f1 := (242, [(3, .inl (0 : Int32)), (2, .inl (nI k)), (0, .inr (.inr (some 129))), (1, .inr (.inr (some m)))], [], Hsa)) (C := []) rfl trivial ?_
      refine mw_go mu_g291 (k := 1) (f1 := (245, [(2, .inl ((nI k) + 1)), (3, .inl (0 : Int32)), (0, .inr (.inr (some 129))), (1, .inr (.inr (some m)))], [], Hsa)) (C := []) rfl trivial ?_
      rw [(show ((nI k) + 1) = (nI (k + 1)) from (nI_add k 1))]
      refine mw_go mu_g291 (k := 1) (f1 := (10, [(2, .inl (nI (k + 1))), (3, .inl (0 : Int32)), (0, .inr (.inr (some 129))), (1, .inr (.inr (some m)))], [], Hsa)) (C := []) rfl trivial ?_
      exact mw_sub (by simp) (iha (k + 1, Hsa) ⟨ua, hta, (show uq F291a U (ud m Hsa) from by rw [da]; exact zza), (show (k + 1) ≤ ((ud m Hsa).1 23).1 from by rw [da]; exact (by omega)), (show True ∧ ((ud m Hsa).1 23).1 = (U.1 23).1 from by rw [da]; exact (by rw [(show (Va.1 23) = (Va.1 23) from rfl)]; exact hszE)), (show RSK m (ud m Hsa) Y P f od es from by rw [da]; exact hKN), (show ∀ r, r < ((ud m Hsa).1 23).1 → PCT Y es ((ud m Hsa).1 23) r from by rw [da]; exact hPCa), (show ∃ G, RLG (ud m Hsa) Y es P f od N0 O0 sf nb bo br ba bn bi (cnt + (k + 1)) G ∧ ∀ b s u, b < nb → s < pd f 0 P → u < pd f 0 P → ((G b s u ∧ (b + 1 = nb → PND Y U f P od ((ud m Hsa).1 23) s u)) ↔ (G0 b s u ∧ (b + 1 = nb → PND Y U f P od (U.1 23) s u))) from by rw [da]; exact (by obtain ⟨G, hG1, hG2⟩ := hRG; exact ⟨G, hG1.mono (by omega) (fun _ _ _ _ _ _ => Iff.rfl), hG2⟩))⟩ (by show (U.1 23).1 - (k + 1) < (U.1 23).1 - k; omega))
    · -- a piece
      have hn0 := hwk0.pos
      obtain ⟨nn, hnn⟩ : ∃ nn, (rwn (Va.1 23) k) = nn + 1 := ⟨(rwn (Va.1 23) k) - 1, by omega⟩
      have hwk : WTC Y es (rwa (Va.1 23) k) (nn + 1) (rwi (Va.1 23) k) := by rw [← hnn]; exact hwk0
      refine mw_go mu_g291 (k := 2) (f1 := (23, [(2, .inl (nI k)), (0, .inr (.inr (some 129))), (1, .inr (.inr (some m)))], [.inl (nI k), .inr (.inr (some 129))], Hsa)) (C := []) rfl trivial ?_
      refine mw_cI (fun _ => rfl) (show mu_is Hsa (some 129) 9 from (ua.1.1.is rfl)) (rl_side (d := (d + 5)) (Y := Y) (k := k) (a := (rwa (Va.1 23) k)) (n := nn) (i0 := (rwi (Va.1 23) k)) ua da (show (Va.2.2.2.1 99 0) = some m from ((zza.r 99 0 rfl).trans hmo)) (show Va.1 0 = Y 0 from ((zza.t 0 rfl)).trans hj0U) hCc (by omega) (by omega) hPk.1.1 (by have y := hPk.1.2.1; rw [hnn] at y; exact y) hwk.1) (fun x4 H4 q4 => ?_)
      rcases q4 with ⟨hHe, rfl | ⟨rfl, ho1, ho2, ho3, ho4⟩ | ⟨rfl, ho1, ho2, ho3⟩⟩
      · -- (0 : Int32)
        rw [hHe]
        refine mw_go mu_g291 (k := 2) (f1 := (28, [(3, .inl (0 : Int32)), (2, .inl (nI k)), (0, .inr (.inr (some 129))), (1, .inr (.inr (some m)))], [.inl (0 : Int32)], Hsa)) (C := []) rfl trivial ?_
        refine mw_if (P := (0 : Int32) = 0) (a := 31) (b := 34) (fun _ => rfl) trivial (fun h5 => ?_) (fun h5 => absurd (by decide) h5)
        refine mw_go mu_g291 (k := 1) (f1 := (242, [(3, .inl (0 : Int32)), (2, .inl (nI k)), (0, .inr (.inr (some 129))), (1, .inr (.inr (some m)))], [], Hsa)) (C := []) rfl trivial ?_
        refine mw_go mu_g291 (k := 1) (f1 := (245, [(2, .inl ((nI k) + 1)), (3, .inl (0 : Int32)), (0, .inr (.inr (some 129))), (1, .inr (.inr (some m)))], [], Hsa)) (C := []) rfl trivial ?_
        rw [(show ((nI k) + 1) = (nI (k + 1)) from (nI_add k 1))]
        refine mw_go mu_g291 (k := 1) (f1 := (10, [(2, .inl (nI (k + 1))), (3, .inl (0 : Int32)), (0, .inr (.inr (some 129))), (1, .inr (.inr (some m)))], [], Hsa)) (C := []) rfl trivial ?_
        exact mw_sub (by simp) (iha (k + 1, Hsa) ⟨ua, hta, (show uq F291a U (ud m Hsa) from by rw [da]; exact zza), (show (k + 1) ≤ ((ud m Hsa).1 23).1 from by rw [da]; exact (by omega)), (show True ∧ ((ud m Hsa).1 23).1 = (U.1 23).1 from by rw [da]; exact (by rw [(show (Va.1 23) = (Va.1 23) from rfl)]; exact hszE)), (show RSK m (ud m Hsa) Y P f od es from by rw [da]; exact hKN), (show ∀ r, r < ((ud m Hsa).1 23).1 → PCT Y es ((ud m Hsa).1 23) r from by rw [da]; exact hPCa), (show ∃ G, RLG (ud m Hsa) Y es P f od N0 O0 sf nb bo br ba bn bi (cnt + (k + 1)) G ∧ ∀ b s u, b < nb → s < pd f 0 P → u < pd f 0 P → ((G b s u ∧ (b + 1 = nb → PND Y U f P od ((ud m Hsa).1 23) s u)) ↔ (G0 b s u ∧ (b + 1 = nb → PND Y U f P od (U.1 23) s u))) from by rw [da]; exact (by obtain ⟨G, hG1, hG2⟩ := hRG; exact ⟨G, hG1.mono (by omega) (fun _ _ _ _ _ _ => Iff.rfl), hG2⟩))⟩ (by show (U.1 23).1 - (k + 1) < (U.1 23).1 - k; omega))
      · -- (-1 : Int32)
        rw [hHe]
        obtain ⟨r, w, mo, Lk, rs, hEQ, her, hmo30, hmo1⟩ := eqs_l hD.1 hPk.2.1 hwk ho1 ho2 ho3 ho4
        have hmoB : mo ≤ 14000 := by have y := kst_len hEQ.2.2.2.2.1.2.2.1; rw [hEQ.2.2.2.2.2.1.2] at y; omega
        refine mw_go mu_g291 (k := 2) (f1 := (28, [(3, .inl (-1 : Int32)), (2, .inl (nI k)), (0, .inr (.inr (some 129))), (1, .inr (.inr (some m)))], [.inl (-1 : Int32)], Hsa)) (C := []) rfl trivial ?_
        refine mw_if (P := (-1 : Int32) = 0) (a := 31) (b := 34) (fun _ => rfl) trivial (fun h6 => absurd h6 (by decide)) (fun h6 => ?_)
        refine mw_go mu_g291 (k := 2) (f1 := (38, [(3, .inl (-1 : Int32)), (2, .inl (nI k)), (0, .inr (.inr (some 129))), (1, .inr (.inr (some m)))], [.inr (.inr (mu_r Hsa 129 2))], Hsa)) (C := [mu_is Hsa (some 129) 9]) rfl (show mu_is Hsa (some 129) 9 from (ua.1.1.is rfl)) ?_
        rw [(ua.1.1.r (p := 129) (j := 2) (q := 118) rfl)]
        refine mw_go mu_g291 (k := 2) (f1 := (40, [(3, .inl (-1 : Int32)), (2, .inl (nI k)), (0, .inr (.inr (some 129))), (1, .inr (.inr (some m)))], [.inl (0 : Int32), .inl (nI k), .inr (.inr (some 118))], Hsa)) (C := []) rfl trivial ?_
        refine mw_cIe (fun _ => rfl) (show mu_is Hsa (some 118) 10 from (ua.1.1.is rfl)) (ua.getr (d := (d + 7)) da (j := 23) (by decide) rfl (nI k) (c := 0) (by decide)) ?_
        rw [show (tget (Va.1 23) (nI k) 0) = (nI (rwa (Va.1 23) k)) from ((congrArg (fun z => tget z (nI k) 0) (show Va.1 23 = (Va.1 23) from rfl)).trans (tget_nI (by first | omega | decide))).trans hPk.1.1]
        refine mw_go mu_g291 (k := 3) (f1 := (49, [(4, .inl (nI (rwa (Va.1 23) k))), (3, .inl (-1 : Int32)), (2, .inl (nI k)), (0, .inr (.inr (some 129))), (1, .inr (.inr (some m)))], [.inr (.inr (mu_r Hsa 129 2))], Hsa)) (C := [mu_is Hsa (some 129) 9]) rfl (show mu_is Hsa (some 129) 9 from (ua.1.1.is rfl)) ?_
        rw [(ua.1.1.r (p := 129) (j := 2) (q := 118) rfl)]
        refine mw_go mu_g291 (k := 2) (f1 := (51, [(4, .inl (nI (rwa (Va.1 23) k))), (3, .inl (-1 : Int32)), (2, .inl (nI k)), (0, .inr (.inr (some 129))), (1, .inr (.inr (some m)))], [.inl (1 : Int32), .inl (nI k), .inr (.inr (some 118))], Hsa)) (C := []) rfl trivial ?_
        refine mw_cIe (fun _ => rfl) (show mu_is Hsa (some 118) 10 from (ua.1.1.is rfl)) (ua.getr (d := (d + 7)) da (j := 23) (by decide) rfl (nI k) (c := 1) (by decide)) ?_
        rw [show (tget (Va.1 23) (nI k) 1) = (nI ((rwa (Va.1 23) k) + (rwn (Va.1 23) k))) from ((congrArg (fun z => tget z (nI k) 1) (show Va.1 23 = (Va.1 23) from rfl)).trans (tget_nI (by first | omega | decide))).trans hPk.1.2.1]
        refine mw_go mu_g291 (k := 2) (f1 := (56, [(4, .inl (nI (rwa (Va.1 23) k))), (3, .inl (-1 : Int32)), (2, .inl (nI k)), (0, .inr (.inr (some 129))), (1, .inr (.inr (some m)))], [.inl ((nI ((rwa (Va.1 23) k) + (rwn (Va.1 23) k))) - (1 : Int32))], Hsa)) (C := []) rfl trivial ?_
        rw [(show ((nI ((rwa (Va.1 23) k) + (rwn (Va.1 23) k))) - (1 : Int32)) = (nI (((rwa (Va.1 23) k) + (rwn (Va.1 23) k)) - 1)) from (nI_sub (a := (rwa (Va.1 23) k) + (rwn (Va.1 23) k)) (b := 1) (by omega)))]
        refine mw_go mu_g291 (k := 3) (f1 := (62, [(5, .inl (nI (((rwa (Va.1 23) k) + (rwn (Va.1 23) k)) - 1))), (4, .inl (nI (rwa (Va.1 23) k))), (3, .inl (-1 : Int32)), (2, .inl (nI k)), (0, .inr (.inr (some 129))), (1, .inr (.inr (some m)))], [.inr (.inr (mu_r Hsa 129 2))], Hsa)) (C := [mu_is Hsa (some 129) 9]) rfl (show mu_is Hsa (some 129) 9 from (ua.1.1.is rfl)) ?_
        rw [(ua.1.1.r (p := 129) (j := 2) (q := 118) rfl)]
        refine mw_go mu_g291 (k := 2) (f1 := (64, [(5, .inl (nI (((rwa (Va.1 23) k) + (rwn (Va.1 23) k)) - 1))), (4, .inl (nI (rwa (Va.1 23) k))), (3, .inl (-1 : Int32)), (2, .inl (nI k)), (0, .inr (.inr (some 129))), (1, .inr (.inr (some m)))], [.inl (2 : Int32), .inl (nI k), .inr (.inr (some 118))], Hsa)) (C := []) rfl trivial ?_
        refine mw_cIe (fun _ => rfl) (show mu_is Hsa (some 118) 10 from (ua.1.1.is rfl)) (ua.getr (d := (d + 7)) da (j := 23) (by decide) rfl (nI k) (c := 2) (by decide)) ?_
        rw [show (tget (Va.1 23) (nI k) 2) = (nI (rwi (Va.1 23) k)) from ((congrArg (fun z => tget z (nI k) 2) (show Va.1 23 = (Va.1 23) from rfl)).trans (tget_nI (by first | omega | decide))).trans hPk.1.2.2]
        refine mw_go mu_g291 (k := 3) (f1 := (73, [(6, .inl (nI (rwi (Va.1 23) k))), (5, .inl (nI (((rwa (Va.1 23) k) + (rwn (Va.1 23) k)) - 1))), (4, .inl (nI (rwa (Va.1 23) k))), (3, .inl (-1 : Int32)), (2, .inl (nI k)), (0, .inr (.inr (some 129))), (1, .inr (.inr (some m)))], [.inr (.inr (mu_r Hsa m 0))], Hsa)) (C := [mu_is Hsa (some m) 6]) rfl (show mu_is Hsa (some m) 6 from (show mu_is Hsa (some m) 6 from gi_im ua.1.1 ua.2)) ?_
        rw [(show mu_r Hsa m 0 = some (m + 1) from (gi_mr ua.1.1 ua.2 (j := 0) (by decide)).trans (congrArg some (by omega)))]
        refine mw_go mu_g291 (k := 1) (f1 := (74, [(6, .inl (nI (rwi (Va.1 23) k))), (5, .inl (nI (((rwa (Va.1 23) k) + (rwn (Va.1 23) k)) - 1))), (4, .inl (nI (rwa (Va.1 23) k))), (3, .inl (-1 : Int32)), (2, .inl (nI k)), (0, .inr (.inr (some 129))), (1, .inr (.inr (some m)))], [.inl (-1 : Int32), .inr (.inr (some (m + 1)))], Hsa)) (C := []) rfl trivial ?_
        refine mw_if (P := (-1 : Int32) < 0) (a := 77) (b := 82) (fun _ => rfl) trivial (fun h10 => ?_) (fun h10 => absurd (by decide) h10)
        refine mw_go mu_g291 (k := 3) (f1 := (87, [(6, .inl (nI (rwi (Va.1 23) k))), (5, .inl (nI (((rwa (Va.1 23) k) + (rwn (Va.1 23) k)) - 1))), (4, .inl (nI (rwa (Va.1 23) k))), (3, .inl (-1 : Int32)), (2, .inl (nI k)), (0, .inr (.inr (some 129))), (1, .inr (.inr (some m)))], [.inl (1 : Int32), .inl (nI (rwa (Va.1 23) k)), .inr (.inr (some (m + 1)))], Hsa)) (C := []) rfl trivial ?_
        refine mw_cIe (fun _ => rfl) (show mu_is Hsa (some (m + 1)) 10 from ((ua.1.1.w (md_w0 ua.2)).1)) (ua.getr (d := (d + 7)) da (j := 0) (by decide) rfl (nI (rwa (Va.1 23) k)) (c := 1) (by decide)) ?_
        rw [show (tget (Va.1 0) (nI (rwa (Va.1 23) k)) 1) = (nI r) from ((congrArg (fun z => tget z (nI (rwa (Va.1 23) k)) 1) (show Va.1 0 = (U.1 0) from (zza.t 0 rfl))).trans (tget_nI (by first | omega | decide))).trans (by rw [hj0U]; exact her)]
        refine mw_go mu_g291 (k := 3) (f1 := (96, [(7, .inl (nI r)), (6, .inl (nI (rwi (Va.1 23) k))), (5, .inl (nI (((rwa (Va.1 23) k) + (rwn (Va.1 23) k)) - 1))), (4, .inl (nI (rwa (Va.1 23) k))), (3, .inl (-1 : Int32)), (2, .inl (nI k)), (0, .inr (.inr (some 129))), (1, .inr (.inr (some m)))], [.inr (.inr (mu_r Hsa m 15))], Hsa)) (C := [mu_is Hsa (some m) 6]) rfl (show mu_is Hsa (some m) 6 from (show mu_is Hsa (some m) 6 from gi_im ua.1.1 ua.2)) ?_
        rw [(show mu_r Hsa m 15 = some (m + 31) from (gi_mr ua.1.1 ua.2 (j := 15) (by decide)).trans (congrArg some (by omega)))]
        refine mw_go mu_g291 (k := 3) (f1 := (101, [(7, .inl (nI r)), (6, .inl (nI (rwi (Va.1 23) k))), (5, .inl (nI (((rwa (Va.1 23) k) + (rwn (Va.1 23) k)) - 1))), (4, .inl (nI (rwa (Va.1 23) k))), (3, .inl (-1 : Int32)), (2, .inl (nI k)), (0, .inr (.inr (some 129))), (1, .inr (.inr (some m)))], [.inl (nI (rwi (Va.1 23) k)), .inl (nI r), .inr (.inr (some m)), .inr (.inr (some (m + 31)))], Hsa)) (C := []) rfl trivial ?_
        refine mw_cI (fun _ => rfl) (show mu_is Hsa (some m) 6 from (show mu_is Hsa (some m) 6 from gi_im ua.1.1 ua.2)) (um_reach (d := (d + 6)) (W := Y) (r := r) (i := (rwi (Va.1 23) k)) ua (by have z : ak m Hsa = Va.1 := congrArg Prod.fst da; rw [z]; exact (hKN.1).2.2.1) hD.1 hPk.2.1 hEQ.2.2.1.1 hEQ.2.2.1.2) (fun x12 H12 q12 => ?_)
        obtain ⟨rfl, rfl, -⟩ := q12
        rw [hEQ.2.1]
        rcases hKN.1.2.2.2.2.2.2 w hEQ.2.2.2.1 with hpc | ⟨pl, hpl, hpc⟩
        · -- place: no
          have hpcU : (U.1 15).2 w 2 = (Va.1 15).2 w 2 := by rw [(show (Va.1 15) = (U.1 15) from (zza.t 15 rfl))]
          have hw15 := hEQ.2.2.2.1
          refine mw_go mu_g291 (k := 1) (f1 := (105, [(7, .inl (nI r)), (6, .inl (nI (rwi (Va.1 23) k))), (5, .inl (nI (((rwa (Va.1 23) k) + (rwn (Va.1 23) k)) - 1))), (4, .inl (nI (rwa (Va.1 23) k))), (3, .inl (-1 : Int32)), (2, .inl (nI k)), (0, .inr (.inr (some 129))), (1, .inr (.inr (some m)))], [.inl (2 : Int32), .inl (nI w), .inr (.inr (some (m + 31)))], Hsa)) (C := []) rfl trivial ?_
          refine mw_cIe (fun _ => rfl) (show mu_is Hsa (some (m + 31)) 10 from ((ua.1.1.w (md_w15 ua.2)).1)) (ua.getr (d := (d + 7)) da (j := 15) (by decide) rfl (nI w) (c := 2) (by decide)) ?_
          rw [show (tget (Va.1 15) (nI w) 2) = (-1 : Int32) from ((congrArg (fun z => tget z (nI w) 2) (show Va.1 15 = (U.1 15) from (zza.t 15 rfl))).trans (tget_nI (by first | omega | decide))).trans (hpcU.trans hpc)]
          refine mw_go mu_g291 (k := 2) (f1 := (111, [(8, .inl (-1 : Int32)), (7, .inl (nI r)), (6, .inl (nI (rwi (Va.1 23) k))), (5, .inl (nI (((rwa (Va.1 23) k) + (rwn (Va.1 23) k)) - 1))), (4, .inl (nI (rwa (Va.1 23) k))), (3, .inl (-1 : Int32)), (2, .inl (nI k)), (0, .inr (.inr (some 129))), (1, .inr (.inr (some m)))], [.inl (-1 : Int32)], Hsa)) (C := []) rfl trivial ?_
          refine mw_if (P := (-1 : Int32) < 0) (a := 114) (b := 121) (fun _ => rfl) trivial (fun h14 => ?_) (fun h14 => absurd (by decide) h14)
          refine mw_go mu_g291 (k := 3) (f1 := (118, [(8, .inl (-1 : Int32)), (7, .inl (nI r)), (6, .inl (nI (rwi (Va.1 23) k))), (5, .inl (nI (((rwa (Va.1 23) k) + (rwn (Va.1 23) k)) - 1))), (4, .inl (nI (rwa (Va.1 23) k))), (3, .inl (-1 : Int32)), (2, .inl (nI k)), (0, .inr (.inr (some 129))), (1, .inr (.inr (some m)))], [.inl ((nI (rwa (Va.1 23) k)) + (1 : Int32))], Hsa)) (C := []) rfl trivial ?_
          rw [(show ((nI (rwa (Va.1 23) k)) + (1 : Int32)) = (nI ((rwa (Va.1 23) k) + 1)) from (nI_add (rwa (Va.1 23) k) 1))]
          refine mw_go mu_g291 (k := 3) (f1 := (126, [(9, .inl (nI ((rwa (Va.1 23) k) + 1))), (8, .inl (-1 : Int32)), (7, .inl (nI r)), (6, .inl (nI (rwi (Va.1 23) k))), (5, .inl (nI (((rwa (Va.1 23) k) + (rwn (Va.1 23) k)) - 1))), (4, .inl (nI (rwa (Va.1 23) k))), (3, .inl (-1 : Int32)), (2, .inl (nI k)), (0, .inr (.inr (some 129))), (1, .inr (.inr (some m)))], [.inl (-1 : Int32)], Hsa)) (C := []) rfl trivial ?_
          refine mw_if (P := (-1 : Int32) < 0) (a := 129) (b := 134) (fun _ => rfl) trivial (fun h15 => ?_) (fun h15 => absurd (by decide) h15)
          refine mw_go mu_g291 (k := 5) (f1 := (144, [(10, .inl (nI (((rwa (Va.1 23) k) + (rwn (Va.1 23) k)) - 1))), (9, .inl (nI ((rwa (Va.1 23) k) + 1))), (8, .inl (-1 : Int32)), (7, .inl (nI r)), (6, .inl (nI (rwi (Va.1 23) k))), (5, .inl (nI (((rwa (Va.1 23) k) + (rwn (Va.1 23) k)) - 1))), (4, .inl (nI (rwa (Va.1 23) k))), (3, .inl (-1 : Int32)), (2, .inl (nI k)), (0, .inr (.inr (some 129))), (1, .inr (.inr (some m)))], [.inr (.inr (mu_r Hsa 129 0))], Hsa)) (C := [mu_is Hsa (some 129) 9]) rfl (show mu_is Hsa (some 129) 9 from (ua.1.1.is rfl)) ?_
          rw [(ua.1.1.r (p := 129) (j := 0) (q := 99) rfl)]
          refine mw_go mu_g291 (k := 1) (f1 := (147, [(10, .inl (nI (((rwa (Va.1 23) k) + (rwn (Va.1 23) k)) - 1))), (9, .inl (nI ((rwa (Va.1 23) k) + 1))), (8, .inl (-1 : Int32)), (7, .inl (nI r)), (6, .inl (nI (rwi (Va.1 23) k))), (5, .inl (nI (((rwa (Va.1 23) k) + (rwn (Va.1 23) k)) - 1))), (4, .inl (nI (rwa (Va.1 23) k))), (3, .inl (-1 : Int32)), (2, .inl (nI k)), (0, .inr (.inr (some 129))), (1, .inr (.inr (some m)))], [.inr (.inr (mu_r Hsa 99 1))], Hsa)) (C := [mu_is Hsa (some 99) 13]) rfl (show mu_is Hsa (some 99) 13 from (ua.1.1.is rfl)) ?_
          rw [(ua.1.1.r (p := 99) (j := 1) (q := 100) rfl)]
          refine mw_go mu_g291 (k := 3) (f1 := (153, [(10, .inl (nI (((rwa (Va.1 23) k) + (rwn (Va.1 23) k)) - 1))), (9, .inl (nI ((rwa (Va.1 23) k) + 1))), (8, .inl (-1 : Int32)), (7, .inl (nI r)), (6, .inl (nI (rwi (Va.1 23) k))), (5, .inl (nI (((rwa (Va.1 23) k) + (rwn (Va.1 23) k)) - 1))), (4, .inl (nI (rwa (Va.1 23) k))), (3, .inl (-1 : Int32)), (2, .inl (nI k)), (0, .inr (.inr (some 129))), (1, .inr (.inr (some m)))], [.inl (nI (rwi (Va.1 23) k)), .inl (nI (((rwa (Va.1 23) k) + (rwn (Va.1 23) k)) - 1)), .inl (nI ((rwa (Va.1 23) k) + 1)), .inr (.inr (some 100))], Hsa)) (C := []) rfl trivial ?_
          refine mw_cV (fun _ => rfl) (show mu_is Hsa (some 100) 5 from (ua.1.1.is rfl)) (by have y := (rl_loadP (d := (d + 3)) (C := C) (a := ((rwa (Va.1 23) k) + 1)) (n := (nn - 1)) (i := (rwi (Va.1 23) k)) ua da hKN hPk.2.1 hEQ.2.2.2.2.1 hC21 hC21b); rw [show ((rwa (Va.1 23) k) + 1) + (nn - 1) = ((rwa (Va.1 23) k) + (rwn (Va.1 23) k)) - 1 by omega] at y; exact y) (fun Q16 q16 => ?_)
          obtain ⟨u16, r16, z16, hKL⟩ := q16
          have ht16 : ur m C H Q16 := hta.trans r16
          obtain ⟨V16, d16⟩ : ∃ V, ud m Q16 = V := ⟨_, rfl⟩
          rw [d16] at z16 hKL
          have qf16 : uq F291 U V16 := qfa.tr z16 rfl
          obtain ⟨mk, hmk⟩ : ∃ mk, V16.2.1 100 4 = mk := ⟨_, rfl⟩
          refine mw_go mu_g291 (k := 1) (f1 := (158, [(10, .inl (nI (((rwa (Va.1 23) k) + (rwn (Va.1 23) k)) - 1))), (9, .inl (nI ((rwa (Va.1 23) k) + 1))), (8, .inl (-1 : Int32)), (7, .inl (nI r)), (6, .inl (nI (rwi (Va.1 23) k))), (5, .inl (nI (((rwa (Va.1 23) k) + (rwn (Va.1 23) k)) - 1))), (4, .inl (nI (rwa (Va.1 23) k))), (3, .inl (-1 : Int32)), (2, .inl (nI k)), (0, .inr (.inr (some 129))), (1, .inr (.inr (some m)))], [.inl (-1 : Int32)], Q16)) (C := []) rfl trivial ?_
          refine mw_if (P := (-1 : Int32) < 0) (a := 242) (b := 161) (fun _ => rfl) trivial (fun h17 => ?_) (fun h17 => absurd (by decide) h17)
          refine mw_go mu_g291 (k := 1) (f1 := (245, [(2, .inl ((nI k) + 1)), (10, .inl (nI (((rwa (Va.1 23) k) + (rwn (Va.1 23) k)) - 1))), (9, .inl (nI ((rwa (Va.1 23) k) + 1))), (8, .inl (-1 : Int32)), (7, .inl (nI r)), (6, .inl (nI (rwi (Va.1 23) k))), (5, .inl (nI (((rwa (Va.1 23) k) + (rwn (Va.1 23) k)) - 1))), (4, .inl (nI (rwa (Va.1 23) k))), (3, .inl (-1 : Int32)), (0, .inr (.inr (some 129))), (1, .inr (.inr (some m)))], [], Q16)) (C := []) rfl trivial ?_
          rw [(show ((nI k) + 1) = (nI (k + 1)) from (nI_add k 1))]
          refine mw_go mu_g291 (k := 1) (f1 := (10, [(2, .inl (nI (k + 1))), (10, .inl (nI (((rwa (Va.1 23) k) + (rwn (Va.1 23) k)) - 1))), (9, .inl (nI ((rwa (Va.1 23) k) + 1))), (8, .inl (-1 : Int32)), (7, .inl (nI r)), (6, .inl (nI (rwi (Va.1 23) k))), (5, .inl (nI (((rwa (Va.1 23) k) + (rwn (Va.1 23) k)) - 1))), (4, .inl (nI (rwa (Va.1 23) k))), (3, .inl (-1 : Int32)), (0, .inr (.inr (some 129))), (1, .inr (.inr (some m)))], [], Q16)) (C := []) rfl trivial ?_
          exact mw_sub (by simp) (iha (k + 1, Q16) ⟨u16, ht16, (show uq F291a U (ud m Q16) from by rw [d16]; exact (zza.tr z16 rfl)), (show (k + 1) ≤ ((ud m Q16).1 23).1 from by rw [d16]; exact (by rw [(show (V16.1 23) = (Va.1 23) from (z16.t 23 rfl))]; omega)), (show True ∧ ((ud m Q16).1 23).1 = (U.1 23).1 from by rw [d16]; exact (by rw [(show (V16.1 23) = (Va.1 23) from (z16.t 23 rfl))]; exact hszE)), (show RSK m (ud m Q16) Y P f od es from by rw [d16]; exact (RSKL.kk hKL (by omega) hPk.2.1)), (show ∀ r, r < ((ud m Q16).1 23).1 → PCT Y es ((ud m Q16).1 23) r from by rw [d16]; exact (by rw [(show (V16.1 23) = (Va.1 23) from (z16.t 23 rfl))]; exact hPCa)), (show ∃ G, RLG (ud m Q16) Y es P f od N0 O0 sf nb bo br ba bn bi (cnt + (k + 1)) G ∧ ∀ b s u, b < nb → s < pd f 0 P → u < pd f 0 P → ((G b s u ∧ (b + 1 = nb → PND Y U f P od ((ud m Q16).1 23) s u)) ↔ (G0 b s u ∧ (b + 1 = nb → PND Y U f P od (U.1 23) s u))) from by rw [d16]; exact (by obtain ⟨G, hG1, hG2⟩ := hRG; refine ⟨G, (hG1.q (F := F203) (show uq F203 Va V16 from ((uq.refl F203 Va).tr z16 rfl)) rfl rfl).mono (by omega) (fun _ _ _ _ _ _ => Iff.rfl), ?_⟩; rw [(show (V16.1 23) = (Va.1 23) from (z16.t 23 rfl))]; exact hG2))⟩ (by show (U.1 23).1 - (k + 1) < (U.1 23).1 - k; omega))
        · -- place: yes
          have hpcU : (U.1 15).2 w 2 = (Va.1 15).2 w 2 := by rw [(show (Va.1 15) = (U.1 15) from (zza.t 15 rfl))]
          have hw15 := hEQ.2.2.2.1
          have hP14 := hK.1.P14
          refine mw_go mu_g291 (k := 1) (f1 := (105, [(7, .inl (nI r)), (6, .inl (nI (rwi (Va.1 23) k))), (5, .inl (nI (((rwa (Va.1 23) k) + (rwn (Va.1 23) k)) - 1))), (4, .inl (nI (rwa (Va.1 23) k))), (3, .inl (-1 : Int32)), (2, .inl (nI k)), (0, .inr (.inr (some 129))), (1, .inr (.inr (some m)))], [.inl (2 : Int32), .inl (nI w), .inr (.inr (some (m + 31)))], Hsa)) (C := []) rfl trivial ?_
          refine mw_cIe (fun _ => rfl) (show mu_is Hsa (some (m + 31)) 10 from ((ua.1.1.w (md_w15 ua.2)).1)) (ua.getr (d := (d + 7)) da (j := 15) (by decide) rfl (nI w) (c := 2) (by decide)) ?_
          rw [show (tget (Va.1 15) (nI w) 2) = (nI pl) from ((congrArg (fun z => tget z (nI w) 2) (show Va.1 15 = (U.1 15) from (zza.t 15 rfl))).trans (tget_nI (by first | omega | decide))).trans (hpcU.trans hpc)]
          refine mw_go mu_g291 (k := 2) (f1 := (111, [(8, .inl (nI pl)), (7, .inl (nI r)), (6, .inl (nI (rwi (Va.1 23) k))), (5, .inl (nI (((rwa (Va.1 23) k) + (rwn (Va.1 23) k)) - 1))), (4, .inl (nI (rwa (Va.1 23) k))), (3, .inl (-1 : Int32)), (2, .inl (nI k)), (0, .inr (.inr (some 129))), (1, .inr (.inr (some m)))], [.inl (-1 : Int32)], Hsa)) (C := []) rfl trivial ?_
          refine mw_if (P := (-1 : Int32) < 0) (a := 114) (b := 121) (fun _ => rfl) trivial (fun h19 => ?_) (fun h19 => absurd (by decide) h19)
          refine mw_go mu_g291 (k := 3) (f1 := (118, [(8, .inl (nI pl)), (7, .inl (nI r)), (6, .inl (nI (rwi (Va.1 23) k))), (5, .inl (nI (((rwa (Va.1 23) k) + (rwn (Va.1 23) k)) - 1))), (4, .inl (nI (rwa (Va.1 23) k))), (3, .inl (-1 : Int32)), (2, .inl (nI k)), (0, .inr (.inr (some 129))), (1, .inr (.inr (some m)))], [.inl ((nI (rwa (Va.1 23) k)) + (1 : Int32))], Hsa)) (C := []) rfl trivial ?_
          rw [(show ((nI (rwa (Va.1 23) k)) + (1 : Int32)) = (nI ((rwa (Va.1 23) k) + 1)) from (nI_add (rwa (Va.1 23) k) 1))]
          refine mw_go mu_g291 (k := 3) (f1 := (126, [(9, .inl (nI ((rwa (Va.1 23) k) + 1))), (8, .inl (nI pl)), (7, .inl (nI r)), (6, .inl (nI (rwi (Va.1 23) k))), (5, .inl (nI (((rwa (Va.1 23) k) + (rwn (Va.1 23) k)) - 1))), (4, .inl (nI (rwa (Va.1 23) k))), (3, .inl (-1 : Int32)), (2, .inl (nI k)), (0, .inr (.inr (some 129))), (1, .inr (.inr (some m)))], [.inl (-1 : Int32)], Hsa)) (C := []) rfl trivial ?_
          refine mw_if (P := (-1 : Int32) < 0) (a := 129) (b := 134) (fun _ => rfl) trivial (fun h20 => ?_) (fun h20 => absurd (by decide) h20)
          refine mw_go mu_g291 (k := 5) (f1 := (144, [(10, .inl (nI (((rwa (Va.1 23) k) + (rwn (Va.1 23) k)) - 1))), (9, .inl (nI ((rwa (Va.1 23) k) + 1))), (8, .inl (nI pl)), (7, .inl (nI r)), (6, .inl (nI (rwi (Va.1 23) k))), (5, .inl (nI (((rwa (Va.1 23) k) + (rwn (Va.1 23) k)) - 1))), (4, .inl (nI (rwa (Va.1 23) k))), (3, .inl (-1 : Int32)), (2, .inl (nI k)), (0, .inr (.inr (some 129))), (1, .inr (.inr (some m)))], [.inr (.inr (mu_r Hsa 129 0))], Hsa)) (C := [mu_is Hsa (some 129) 9]) rfl (show mu_is Hsa (some 129) 9 from (ua.1.1.is rfl)) ?_
          rw [(ua.1.1.r (p := 129) (j := 0) (q := 99) rfl)]
          refine mw_go mu_g291 (k := 1) (f1 := (147, [(10, .inl (nI (((rwa (Va.1 23) k) + (rwn (Va.1 23) k)) - 1))), (9, .inl (nI ((rwa (Va.1 23) k) + 1))), (8, .inl (nI pl)), (7, .inl (nI r)), (6, .inl (nI (rwi (Va.1 23) k))), (5, .inl (nI (((rwa (Va.1 23) k) + (rwn (Va.1 23) k)) - 1))), (4, .inl (nI (rwa (Va.1 23) k))), (3, .inl (-1 : Int32)), (2, .inl (nI k)), (0, .inr (.inr (some 129))), (1, .inr (.inr (some m)))], [.inr (.inr (mu_r Hsa 99 1))], Hsa)) (C := [mu_is Hsa (some 99) 13]) rfl (show mu_is Hsa (some 99) 13 from (ua.1.1.is rfl)) ?_
          rw [(ua.1.1.r (p := 99) (j := 1) (q := 100) rfl)]
          refine mw_go mu_g291 (k := 3) (f1 := (153, [(10, .inl (nI (((rwa (Va.1 23) k) + (rwn (Va.1 23) k)) - 1))), (9, .inl (nI ((rwa (Va.1 23) k) + 1))), (8, .inl (nI pl)), (7, .inl (nI r)), (6, .inl (nI (rwi (Va.1 23) k))), (5, .inl (nI (((rwa (Va.1 23) k) + (rwn (Va.1 23) k)) - 1))), (4, .inl (nI (rwa (Va.1 23) k))), (3, .inl (-1 : Int32)), (2, .inl (nI k)), (0, .inr (.inr (some 129))), (1, .inr (.inr (some m)))], [.inl (nI (rwi (Va.1 23) k)), .inl (nI (((rwa (Va.1 23) k) + (rwn (Va.1 23) k)) - 1)), .inl (nI ((rwa (Va.1 23) k) + 1)), .inr (.inr (some 100))], Hsa)) (C := []) rfl trivial ?_
          refine mw_cV (fun _ => rfl) (show mu_is Hsa (some 100) 5 from (ua.1.1.is rfl)) (by have y := (rl_loadP (d := (d + 3)) (C := C) (a := ((rwa (Va.1 23) k) + 1)) (n := (nn - 1)) (i := (rwi (Va.1 23) k)) ua da hKN hPk.2.1 hEQ.2.2.2.2.1 hC21 hC21b); rw [show ((rwa (Va.1 23) k) + 1) + (nn - 1) = ((rwa (Va.1 23) k) + (rwn (Va.1 23) k)) - 1 by omega] at y; exact y) (fun Q21 q21 => ?_)
          obtain ⟨u21, r21, z21, hKL⟩ := q21
          have ht21 : ur m C H Q21 := hta.trans r21
          obtain ⟨V21, d21⟩ : ∃ V, ud m Q21 = V := ⟨_, rfl⟩
          rw [d21] at z21 hKL
          have qf21 : uq F291 U V21 := qfa.tr z21 rfl
          obtain ⟨mk, hmk⟩ : ∃ mk, V21.2.1 100 4 = mk := ⟨_, rfl⟩
          refine mw_go mu_g291 (k := 1) (f1 := (158, [(10, .inl (nI (((rwa (Va.1 23) k) + (rwn (Va.1 23) k)) - 1))), (9, .inl (nI ((rwa (Va.1 23) k) + 1))), (8, .inl (nI pl)), (7, .inl (nI r)), (6, .inl (nI (rwi (Va.1 23) k))), (5, .inl (nI (((rwa (Va.1 23) k) + (rwn (Va.1 23) k)) - 1))), (4, .inl (nI (rwa (Va.1 23) k))), (3, .inl (-1 : Int32)), (2, .inl (nI k)), (0, .inr (.inr (some 129))), (1, .inr (.inr (some m)))], [.inl (nI pl)], Q21)) (C := []) rfl trivial ?_
          refine mw_if (P := (nI pl) < 0) (a := 242) (b := 161) (fun _ => rfl) trivial (fun h22 => absurd h22 (nI_pos (by omega))) (fun h22 => ?_)
          refine mw_go mu_g291 (k := 2) (f1 := (165, [(10, .inl (nI (((rwa (Va.1 23) k) + (rwn (Va.1 23) k)) - 1))), (9, .inl (nI ((rwa (Va.1 23) k) + 1))), (8, .inl (nI pl)), (7, .inl (nI r)), (6, .inl (nI (rwi (Va.1 23) k))), (5, .inl (nI (((rwa (Va.1 23) k) + (rwn (Va.1 23) k)) - 1))), (4, .inl (nI (rwa (Va.1 23) k))), (3, .inl (-1 : Int32)), (2, .inl (nI k)), (0, .inr (.inr (some 129))), (1, .inr (.inr (some m)))], [.inr (.inr (mu_r Q21 129 0))], Q21)) (C := [mu_is Q21 (some 129) 9]) rfl (show mu_is Q21 (some 129) 9 from (u21.1.1.is rfl)) ?_
          rw [(u21.1.1.r (p := 129) (j := 0) (q := 99) rfl)]
          refine mw_go mu_g291 (k := 1) (f1 := (168, [(10, .inl (nI (((rwa (Va.1 23) k) + (rwn (Va.1 23) k)) - 1))), (9, .inl (nI ((rwa (Va.1 23) k) + 1))), (8, .inl (nI pl)), (7, .inl (nI r)), (6, .inl (nI (rwi (Va.1 23) k))), (5, .inl (nI (((rwa (Va.1 23) k) + (rwn (Va.1 23) k)) - 1))), (4, .inl (nI (rwa (Va.1 23) k))), (3, .inl (-1 : Int32)), (2, .inl (nI k)), (0, .inr (.inr (some 129))), (1, .inr (.inr (some m)))], [.inr (.inr (mu_r Q21 99 1))], Q21)) (C := [mu_is Q21 (some 99) 13]) rfl (show mu_is Q21 (some 99) 13 from (u21.1.1.is rfl)) ?_
          rw [(u21.1.1.r (p := 99) (j := 1) (q := 100) rfl)]
          refine mw_go mu_g291 (k := 1) (f1 := (171, [(10, .inl (nI (((rwa (Va.1 23) k) + (rwn (Va.1 23) k)) - 1))), (9, .inl (nI ((rwa (Va.1 23) k) + 1))), (8, .inl (nI pl)), (7, .inl (nI r)), (6, .inl (nI (rwi (Va.1 23) k))), (5, .inl (nI (((rwa (Va.1 23) k) + (rwn (Va.1 23) k)) - 1))), (4, .inl (nI (rwa (Va.1 23) k))), (3, .inl (-1 : Int32)), (2, .inl (nI k)), (0, .inr (.inr (some 129))), (1, .inr (.inr (some m)))], [.inl (mu_i Q21 100 4)], Q21)) (C := [mu_is Q21 (some 100) 5]) rfl (show mu_is Q21 (some 100) 5 from (u21.1.1.is rfl)) ?_
          rw [(show mu_i Q21 100 4 = mk from (ud_i (U := V21) (m := m) (P := 100) (j := 4) d21 rfl).trans hmk)]
          refine mw_go mu_g291 (k := 2) (f1 := (174, [(10, .inl (nI (((rwa (Va.1 23) k) + (rwn (Va.1 23) k)) - 1))), (9, .inl (nI ((rwa (Va.1 23) k) + 1))), (8, .inl (nI pl)), (7, .inl (nI r)), (6, .inl (nI (rwi (Va.1 23) k))), (5, .inl (nI (((rwa (Va.1 23) k) + (rwn (Va.1 23) k)) - 1))), (4, .inl (nI (rwa (Va.1 23) k))), (3, .inl (-1 : Int32)), (2, .inl (nI k)), (0, .inr (.inr (some 129))), (1, .inr (.inr (some m)))], [.inl ((mk.toUInt32 >>> ((14 : Int32).toUInt32 &&& Int32.toUInt32 31)).toInt32)], Q21)) (C := []) rfl trivial ?_
          refine mw_if (P := ((mk.toUInt32 >>> ((14 : Int32).toUInt32 &&& Int32.toUInt32 31)).toInt32) = 0) (a := 177) (b := 242) (fun _ => rfl) trivial (fun h23 => ?_) (fun h23 => ?_)
          · -- 177: ((mk.toUInt32 >>> ((14 : Int32).toUInt32 &&& Int32.toUInt32 31)).toInt32) = 0
            have hmz : ∀ k, 14 ≤ k → k < 28 → mb mk k = 0 := hi_zero (hKL.top hmk) h23
            refine mw_go mu_g291 (k := 2) (f1 := (181, [(10, .inl (nI (((rwa (Va.1 23) k) + (rwn (Va.1 23) k)) - 1))), (9, .inl (nI ((rwa (Va.1 23) k) + 1))), (8, .inl (nI pl)), (7, .inl (nI r)), (6, .inl (nI (rwi (Va.1 23) k))), (5, .inl (nI (((rwa (Va.1 23) k) + (rwn (Va.1 23) k)) - 1))), (4, .inl (nI (rwa (Va.1 23) k))), (3, .inl (-1 : Int32)), (2, .inl (nI k)), (0, .inr (.inr (some 129))), (1, .inr (.inr (some m)))], [.inr (.inr (mu_r Q21 129 2))], Q21)) (C := [mu_is Q21 (some 129) 9]) rfl (show mu_is Q21 (some 129) 9 from (u21.1.1.is rfl)) ?_
            rw [(u21.1.1.r (p := 129) (j := 2) (q := 118) rfl)]
            refine mw_go mu_g291 (k := 3) (f1 := (185, [(10, .inl (nI (((rwa (Va.1 23) k) + (rwn (Va.1 23) k)) - 1))), (9, .inl (nI ((rwa (Va.1 23) k) + 1))), (8, .inl (nI pl)), (7, .inl (nI r)), (6, .inl (nI (rwi (Va.1 23) k))), (5, .inl (nI (((rwa (Va.1 23) k) + (rwn (Va.1 23) k)) - 1))), (4, .inl (nI (rwa (Va.1 23) k))), (3, .inl (-1 : Int32)), (2, .inl (nI k)), (0, .inr (.inr (some 129))), (1, .inr (.inr (some m)))], [.inl (nI (rwa (Va.1 23) k)), .inl (1 : Int32), .inl (nI k), .inr (.inr (some 118))], Q21)) (C := []) rfl trivial ?_
            refine mw_cV (fun _ => rfl) (show mu_is Q21 (some 118) 10 from (u21.1.1.is rfl)) (u21.setr (C := C) (d := (d + 7)) d21 (j := 23) (Or.inr ⟨by decide, by decide⟩) rfl (nI k) (nI (rwa (Va.1 23) k)) (c := 1) (by decide)) (fun Q24 q24 => ?_)
            obtain ⟨u24, r24, d24⟩ := q24
            have ht24 : ur m C H Q24 := ht21.trans r24
            have qf24 : uq F291 U (upT V21 (ax 23 V21.1 (nI k) 1 (nI (rwa (Va.1 23) k)))) := qf21.ax rfl
            refine mw_go mu_g291 (k := 4) (f1 := (195, [(10, .inl (nI (((rwa (Va.1 23) k) + (rwn (Va.1 23) k)) - 1))), (9, .inl (nI ((rwa (Va.1 23) k) + 1))), (8, .inl (nI pl)), (7, .inl (nI r)), (6, .inl (nI (rwi (Va.1 23) k))), (5, .inl (nI (((rwa (Va.1 23) k) + (rwn (Va.1 23) k)) - 1))), (4, .inl (nI (rwa (Va.1 23) k))), (3, .inl (-1 : Int32)), (2, .inl (nI k)), (0, .inr (.inr (some 129))), (1, .inr (.inr (some m)))], [.inr (.inr (mu_r Q24 m 0)), .inl (nI pl), .inr (.inr (some 129))], Q24)) (C := [mu_is Q24 (some m) 6]) rfl (show mu_is Q24 (some m) 6 from (show mu_is Q24 (some m) 6 from gi_im u24.1.1 u24.2)) ?_
            rw [(show mu_r Q24 m 0 = some (m + 1) from (gi_mr u24.1.1 u24.2 (j := 0) (by decide)).trans (congrArg some (by omega)))]
            refine mw_go mu_g291 (k := 2) (f1 := (198, [(10, .inl (nI (((rwa (Va.1 23) k) + (rwn (Va.1 23) k)) - 1))), (9, .inl (nI ((rwa (Va.1 23) k) + 1))), (8, .inl (nI pl)), (7, .inl (nI r)), (6, .inl (nI (rwi (Va.1 23) k))), (5, .inl (nI (((rwa (Va.1 23) k) + (rwn (Va.1 23) k)) - 1))), (4, .inl (nI (rwa (Va.1 23) k))), (3, .inl (-1 : Int32)), (2, .inl (nI k)), (0, .inr (.inr (some 129))), (1, .inr (.inr (some m)))], [.inl (0 : Int32), .inl (nI (((rwa (Va.1 23) k) + (rwn (Va.1 23) k)) - 1)), .inr (.inr (some (m + 1))), .inl (nI pl), .inr (.inr (some 129))], Q24)) (C := []) rfl trivial ?_
            refine mw_cIe (fun _ => rfl) (show mu_is Q24 (some (m + 1)) 10 from ((u24.1.1.w (md_w0 u24.2)).1)) (u24.getr (d := (d + 7)) d24 (j := 0) (by decide) rfl (nI (((rwa (Va.1 23) k) + (rwn (Va.1 23) k)) - 1)) (c := 0) (by decide)) ?_
            rw [show (tget ((upT V21 (ax 23 V21.1 (nI k) 1 (nI (rwa (Va.1 23) k)))).1 0) (nI (((rwa (Va.1 23) k) + (rwn (Va.1 23) k)) - 1)) 0) = (nI (oc Y ((rwa (Va.1 23) k) + nn))) from ((congrArg (fun z => tget z (nI (((rwa (Va.1 23) k) + (rwn (Va.1 23) k)) - 1)) 0) (show (upT V21 (ax 23 V21.1 (nI k) 1 (nI (rwa (Va.1 23) k)))).1 0 = (U.1 0) from ((z21.t 0 rfl).trans (zza.t 0 rfl)))).trans (tget_nI (by first | omega | decide))).trans (by rw [hj0U, show ((rwa (Va.1 23) k) + (rwn (Va.1 23) k)) - 1 = (rwa (Va.1 23) k) + nn by omega]; exact oc_w hD.1 (by omega))]
            refine mw_go mu_g291 (k := 1) (f1 := (203, [(10, .inl (nI (((rwa (Va.1 23) k) + (rwn (Va.1 23) k)) - 1))), (9, .inl (nI ((rwa (Va.1 23) k) + 1))), (8, .inl (nI pl)), (7, .inl (nI r)), (6, .inl (nI (rwi (Va.1 23) k))), (5, .inl (nI (((rwa (Va.1 23) k) + (rwn (Va.1 23) k)) - 1))), (4, .inl (nI (rwa (Va.1 23) k))), (3, .inl (-1 : Int32)), (2, .inl (nI k)), (0, .inr (.inr (some 129))), (1, .inr (.inr (some m)))], [.inl (30 : Int32), .inl (nI (oc Y ((rwa (Va.1 23) k) + nn))), .inl (nI pl), .inr (.inr (some 129))], Q24)) (C := []) rfl trivial ?_
            refine mw_if (P := (nI (oc Y ((rwa (Va.1 23) k) + nn))) = (30 : Int32)) (a := 206) (b := 219) (fun _ => rfl) trivial (fun h26 => ?_) (fun h26 => ?_)
            · -- 206: (nI (oc Y ((rwa (Va.1 23) k) + nn))) = (30 : Int32)
              have nh26 : (oc Y ((rwa (Va.1 23) k) + nn)) = 30 := (nI_eq (by omega) (by omega)).mp (show nI (oc Y ((rwa (Va.1 23) k) + nn)) = nI 30 from h26)
              refine mw_go mu_g291 (k := 2) (f1 := (210, [(10, .inl (nI (((rwa (Va.1 23) k) + (rwn (Va.1 23) k)) - 1))), (9, .inl (nI ((rwa (Va.1 23) k) + 1))), (8, .inl (nI pl)), (7, .inl (nI r)), (6, .inl (nI (rwi (Va.1 23) k))), (5, .inl (nI (((rwa (Va.1 23) k) + (rwn (Va.1 23) k)) - 1))), (4, .inl (nI (rwa (Va.1 23) k))), (3, .inl (-1 : Int32)), (2, .inl (nI k)), (0, .inr (.inr (some 129))), (1, .inr (.inr (some m)))], [.inr (.inr (mu_r Q24 m 0)), .inl (nI pl), .inr (.inr (some 129))], Q24)) (C := [mu_is Q24 (some m) 6]) rfl (show mu_is Q24 (some m) 6 from (show mu_is Q24 (some m) 6 from gi_im u24.1.1 u24.2)) ?_
              rw [(show mu_r Q24 m 0 = some (m + 1) from (gi_mr u24.1.1 u24.2 (j := 0) (by decide)).trans (congrArg some (by omega)))]
              refine mw_go mu_g291 (k := 2) (f1 := (213, [(10, .inl (nI (((rwa (Va.1 23) k) + (rwn (Va.1 23) k)) - 1))), (9, .inl (nI ((rwa (Va.1 23) k) + 1))), (8, .inl (nI pl)), (7, .inl (nI r)), (6, .inl (nI (rwi (Va.1 23) k))), (5, .inl (nI (((rwa (Va.1 23) k) + (rwn (Va.1 23) k)) - 1))), (4, .inl (nI (rwa (Va.1 23) k))), (3, .inl (-1 : Int32)), (2, .inl (nI k)), (0, .inr (.inr (some 129))), (1, .inr (.inr (some m)))], [.inl (1 : Int32), .inl (nI (((rwa (Va.1 23) k) + (rwn (Va.1 23) k)) - 1)), .inr (.inr (some (m + 1))), .inl (nI pl), .inr (.inr (some 129))], Q24)) (C := []) rfl trivial ?_
              refine mw_cIe (fun _ => rfl) (show mu_is Q24 (some (m + 1)) 10 from ((u24.1.1.w (md_w0 u24.2)).1)) (u24.getr (d := (d + 7)) d24 (j := 0) (by decide) rfl (nI (((rwa (Va.1 23) k) + (rwn (Va.1 23) k)) - 1)) (c := 1) (by decide)) ?_
              rw [show (tget ((upT V21 (ax 23 V21.1 (nI k) 1 (nI (rwa (Va.1 23) k)))).1 0) (nI (((rwa (Va.1 23) k) + (rwn (Va.1 23) k)) - 1)) 1) = (nI mo) from ((congrArg (fun z => tget z (nI (((rwa (Va.1 23) k) + (rwn (Va.1 23) k)) - 1)) 1) (show (upT V21 (ax 23 V21.1 (nI k) 1 (nI (rwa (Va.1 23) k)))).1 0 = (U.1 0) from ((z21.t 0 rfl).trans (zza.t 0 rfl)))).trans (tget_nI (by first | omega | decide))).trans (by rw [hj0U, show ((rwa (Va.1 23) k) + (rwn (Va.1 23) k)) - 1 = (rwa (Va.1 23) k) + nn by omega]; exact hmo30 (by omega))]
              refine mw_go mu_g291 (k := 1) (f1 := (220, [(10, .inl (nI (((rwa (Va.1 23) k) + (rwn (Va.1 23) k)) - 1))), (9, .inl (nI ((rwa (Va.1 23) k) + 1))), (8, .inl (nI pl)), (7, .inl (nI r)), (6, .inl (nI (rwi (Va.1 23) k))), (5, .inl (nI (((rwa (Va.1 23) k) + (rwn (Va.1 23) k)) - 1))), (4, .inl (nI (rwa (Va.1 23) k))), (3, .inl (-1 : Int32)), (2, .inl (nI k)), (0, .inr (.inr (some 129))), (1, .inr (.inr (some m)))], [.inl (nI mo), .inl (nI pl), .inr (.inr (some 129))], Q24)) (C := []) rfl trivial ?_
              obtain ⟨G, ⟨A, N, us, S, z, p, nf, nm, tm, bs, lv, oid, nw, wa, wn, wi, wk, ou, hRO⟩, hGm⟩ := hRG
              have hRO1 := hRO.q (F := F291x) (V := (upT V21 (ax 23 V21.1 (nI k) 1 (nI (rwa (Va.1 23) k))))) (((uq.refl F291x Va).tr z21 rfl).T (fun q hq => by first | exact ax_ne (in1_ne rfl hq) | exact ap_ne (in1_ne rfl hq) | exact fu_ne _ _ (in1_ne rfl hq))) rfl rfl
              have hcn1 := hRO1.2.1
              have hKL1 : RSKL m (upT V21 (ax 23 V21.1 (nI k) 1 (nI (rwa (Va.1 23) k)))) Y P f od es ((rwa (Va.1 23) k) + 1) (nn - 1) (rwi (Va.1 23) k) := hKL.q (F := F129) ((uq.refl F129 V21).T (fun q hq => by first | exact ax_ne (in1_ne rfl hq) | exact ap_ne (in1_ne rfl hq) | exact fu_ne _ _ (in1_ne rfl hq))) rfl rfl
              have hmk1 : (upT V21 (ax 23 V21.1 (nI k) 1 (nI (rwa (Va.1 23) k)))).2.1 100 4 = mk := hmk
              refine mw_cI (fun _ => rfl) (show mu_is Q24 (some 129) 9 from (u24.1.1.is rfl)) (rl_roomP (d := (d + 4)) (C := C) (k := pl) (mo := mo) u24 d24 hKL1.1.1 hKL1.1.2.1 hpl hRO1.1 hmk1 (by omega)) (fun x28 Q28 q28 => ?_)
              rcases q28 with ⟨rfl, u28, r28, z28⟩ | ⟨rfl, u28, r28, z28, hrm, hco⟩
              · -- (0 : Int32)
                have ht28 : ur m C H Q28 := ht24.trans r28
                obtain ⟨V28, d28⟩ : ∃ V, ud m Q28 = V := ⟨_, rfl⟩
                rw [d28] at z28
                have qf28 : uq F291 U V28 := qf24.tr z28 rfl
                have hRO2 := hRO1.q z28 rfl rfl
                have hKL2 := hKL1.q z28 rfl rfl
                have hmk2 := (z28.i 100 4 rfl).trans hmk1
                have hnx2 : ¬ NXW Y (V28.1 15) P ((rwa (Va.1 23) k) + 1) (nn - 1) (rwi (Va.1 23) k) := hKL2.nxw hmk2 hmz
                refine mw_if (P := (0 : Int32) = 0) (a := 235) (b := 226) (fun _ => rfl) trivial (fun h29 => ?_) (fun h29 => absurd (by decide) h29)
                refine mw_go mu_g291 (k := 3) (f1 := (239, [(10, .inl (nI (((rwa (Va.1 23) k) + (rwn (Va.1 23) k)) - 1))), (9, .inl (nI ((rwa (Va.1 23) k) + 1))), (8, .inl (nI pl)), (7, .inl (nI r)), (6, .inl (nI (rwi (Va.1 23) k))), (5, .inl (nI (((rwa (Va.1 23) k) + (rwn (Va.1 23) k)) - 1))), (4, .inl (nI (rwa (Va.1 23) k))), (3, .inl (-1 : Int32)), (2, .inl (nI k)), (0, .inr (.inr (some 129))), (1, .inr (.inr (some m)))], [.inl (0 : Int32), .inl (nI pl), .inr (.inr (some 129))], Q28)) (C := []) rfl trivial ?_
                have hXX : ∀ s t, (CHSw Y V28 f P od false ((rwa (Va.1 23) k) + 1) (nn - 1) (rwi (Va.1 23) k) s ((V28.2.2.1 99 8).2 (sm f 0 pl + dgzU f P t pl)) ↔ trs Y U f P od (rwi (Va.1 23) k) (rwa (Va.1 23) k) (nn + 1) s t = 1) := fun s t => by
                  rw [hEQ.2.2.2.2.2.2.2 V28 m P f od mk pl hKL2.1 hKL2.2.2.1 hmk2 hnx2 (by rw [(show (V28.1 15) = (Va.1 15) from ((z28.t 15 rfl).trans (z21.t 15 rfl)))]; exact hpc) (by have y := hK.1.P14; omega) s t, trs_same (U := U) (show (V28.1 15) = (U.1 15) from ((z28.t 15 rfl).trans ((z21.t 15 rfl).trans (zza.t 15 rfl)))) (show (V28.2.2.1 99 8) = (U.2.2.1 99 8) from ((z28.a 99 8 rfl).trans ((z21.a 99 8 rfl).trans (zza.a 99 8 rfl))))]
                refine mw_cV (fun _ => rfl) (show mu_is Q28 (some 129) 9 from (u28.1.1.is rfl)) (rl_asideC (d := (d + 4)) (C := C) (a := ((rwa (Va.1 23) k) + 1)) (n := (nn - 1)) (i := (rwi (Va.1 23) k)) (k := pl) (bb := false) u28 d28 hKL2 hPk.2.1 hEQ.2.2.2.2.1 (by rw [hEQ.2.2.2.2.2.1.2]; exact hEQ.2.2.2.2.2.1.1) ⟨fun y => absurd y (by decide), fun _ => hEQ.2.2.2.2.2.2.1.1⟩ hEQ.2.2.2.2.2.2.1.2 (by decide) hnx2 hpl hRO2.1 (by omega) (by omega) hC25b) (fun Q30 q30 => ?_)
                obtain ⟨u30, r30, z30, hKL3, hres⟩ := q30
                have ht30 : ur m C H Q30 := ht28.trans r30
                obtain ⟨V30, d30⟩ : ∃ V, ud m Q30 = V := ⟨_, rfl⟩
                rw [d30] at z30 hKL3 hres
                have qf30 : uq F291 U V30 := qf28.tr z30 rfl
                have hRGn := hRO2.step (z30.l 145 rfl) hres
                obtain ⟨hP1, hP2, hP4⟩ := pnd_take (U := U) (f := f) (P := P) (od := od) (t := Va.1 23) (k := k) hPCa (by omega) (by omega) (by omega) hY11 (by omega)
                have hT1 : V30.1 23 = tset 5 (Va.1 23) (nI k) 1 (nI (rwa (Va.1 23) k)) := by
                  have y1 : V30.1 23 = (upT V21 (ax 23 V21.1 (nI k) 1 (nI (rwa (Va.1 23) k)))).1 23 := (z30.t 23 rfl).trans (z28.t 23 rfl)
                  rw [y1, ← (show V21.1 23 = Va.1 23 from (z21.t 23 rfl))]
                  rfl
                refine mw_go mu_g291 (k := 1) (f1 := (245, [(2, .inl ((nI k) + 1)), (10, .inl (nI (((rwa (Va.1 23) k) + (rwn (Va.1 23) k)) - 1))), (9, .inl (nI ((rwa (Va.1 23) k) + 1))), (8, .inl (nI pl)), (7, .inl (nI r)), (6, .inl (nI (rwi (Va.1 23) k))), (5, .inl (nI (((rwa (Va.1 23) k) + (rwn (Va.1 23) k)) - 1))), (4, .inl (nI (rwa (Va.1 23) k))), (3, .inl (-1 : Int32)), (0, .inr (.inr (some 129))), (1, .inr (.inr (some m)))], [], Q30)) (C := []) rfl trivial ?_
                rw [(show ((nI k) + 1) = (nI (k + 1)) from (nI_add k 1))]
                refine mw_go mu_g291 (k := 1) (f1 := (10, [(2, .inl (nI (k + 1))), (10, .inl (nI (((rwa (Va.1 23) k) + (rwn (Va.1 23) k)) - 1))), (9, .inl (nI ((rwa (Va.1 23) k) + 1))), (8, .inl (nI pl)), (7, .inl (nI r)), (6, .inl (nI (rwi (Va.1 23) k))), (5, .inl (nI (((rwa (Va.1 23) k) + (rwn (Va.1 23) k)) - 1))), (4, .inl (nI (rwa (Va.1 23) k))), (3, .inl (-1 : Int32)), (0, .inr (.inr (some 129))), (1, .inr (.inr (some m)))], [], Q30)) (C := []) rfl trivial ?_
                exact mw_sub (by simp) (iha (k + 1, Q30) ⟨u30, ht30, (show uq F291a U (ud m Q30) from by rw [d30]; exact ((((zza.tr z21 rfl).T (fun q hq => by first | exact ax_ne (in1_ne rfl hq) | exact ap_ne (in1_ne rfl hq) | exact fu_ne _ _ (in1_ne rfl hq))).tr z28 rfl).tr z30 rfl)), (show (k + 1) ≤ ((ud m Q30).1 23).1 from by rw [d30]; exact (by rw [hT1, hP2]; omega)), (show True ∧ ((ud m Q30).1 23).1 = (U.1 23).1 from by rw [d30]; exact (by rw [hT1, hP2]; exact hszE)), (show RSK m (ud m Q30) Y P f od es from by rw [d30]; exact (RSKL.kk hKL3 (by omega) hPk.2.1)), (show ∀ r, r < ((ud m Q30).1 23).1 → PCT Y es ((ud m Q30).1 23) r from by rw [d30]; exact (by rw [hT1]; exact hP1)), (show ∃ G, RLG (ud m Q30) Y es P f od N0 O0 sf nb bo br ba bn bi (cnt + (k + 1)) G ∧ ∀ b s u, b < nb → s < pd f 0 P → u < pd f 0 P → ((G b s u ∧ (b + 1 = nb → PND Y U f P od ((ud m Q30).1 23) s u)) ↔ (G0 b s u ∧ (b + 1 = nb → PND Y U f P od (U.1 23) s u))) from by rw [d30]; exact ⟨_, hRGn, fun b s u hb hs hu => eqm_step (hGm b s u hb hs hu) (by rw [hT1, hP4 s u, hnn, hXX s u])⟩)⟩ (by show (U.1 23).1 - (k + 1) < (U.1 23).1 - k; omega))
              · -- (1 : Int32)
                have ht28 : ur m C H Q28 := ht24.trans r28
                obtain ⟨V28, d28⟩ : ∃ V, ud m Q28 = V := ⟨_, rfl⟩
                rw [d28] at z28
                have qf28 : uq F291 U V28 := qf24.tr z28 rfl
                have hRO2 := hRO1.q z28 rfl rfl
                have hKL2 := hKL1.q z28 rfl rfl
                have hmk2 := (z28.i 100 4 rfl).trans hmk1
                have hnx2 : ¬ NXW Y (V28.1 15) P ((rwa (Va.1 23) k) + 1) (nn - 1) (rwi (Va.1 23) k) := hKL2.nxw hmk2 hmz
                refine mw_if (P := (1 : Int32) = 0) (a := 235) (b := 226) (fun _ => rfl) trivial (fun h31 => absurd h31 (by decide)) (fun h31 => ?_)
                refine mw_go mu_g291 (k := 2) (f1 := (229, [(10, .inl (nI (((rwa (Va.1 23) k) + (rwn (Va.1 23) k)) - 1))), (9, .inl (nI ((rwa (Va.1 23) k) + 1))), (8, .inl (nI pl)), (7, .inl (nI r)), (6, .inl (nI (rwi (Va.1 23) k))), (5, .inl (nI (((rwa (Va.1 23) k) + (rwn (Va.1 23) k)) - 1))), (4, .inl (nI (rwa (Va.1 23) k))), (3, .inl (-1 : Int32)), (2, .inl (nI k)), (0, .inr (.inr (some 129))), (1, .inr (.inr (some m)))], [.inl (nI pl), .inr (.inr (some 129))], Q28)) (C := []) rfl trivial ?_
                have hXX : ∀ s t, (CHSw Y V28 f P od false ((rwa (Va.1 23) k) + 1) (nn - 1) (rwi (Va.1 23) k) s ((V28.2.2.1 99 8).2 (sm f 0 pl + dgzU f P t pl)) ↔ trs Y U f P od (rwi (Va.1 23) k) (rwa (Va.1 23) k) (nn + 1) s t = 1) := fun s t => by
                  rw [hEQ.2.2.2.2.2.2.2 V28 m P f od mk pl hKL2.1 hKL2.2.2.1 hmk2 hnx2 (by rw [(show (V28.1 15) = (Va.1 15) from ((z28.t 15 rfl).trans (z21.t 15 rfl)))]; exact hpc) (by have y := hK.1.P14; omega) s t, trs_same (U := U) (show (V28.1 15) = (U.1 15) from ((z28.t 15 rfl).trans ((z21.t 15 rfl).trans (zza.t 15 rfl)))) (show (V28.2.2.1 99 8) = (U.2.2.1 99 8) from ((z28.a 99 8 rfl).trans ((z21.a 99 8 rfl).trans (zza.a 99 8 rfl))))]
                have hCK : CHK Y false ((rwa (Va.1 23) k) + 1) (nn - 1) (mo) := ⟨fun y => absurd y (by decide), fun _ => by
                  have y := kst_tp hEQ.2.2.2.2.1.2.2.1
                  rw [Nat.add_sub_cancel_left, hEQ.2.2.2.2.2.1.2] at y
                  omega⟩
                refine mw_cV (fun _ => rfl) (show mu_is Q28 (some 129) 9 from (u28.1.1.is rfl)) (rl_tabP (d := d) (C := C) (a := ((rwa (Va.1 23) k) + 1)) (n := (nn - 1)) (i := (rwi (Va.1 23) k)) (k := pl) (mo := mo) (bb := false) u28 d28 hKL2 hPk.2.1 hEQ.2.2.2.2.1 (by rw [hEQ.2.2.2.2.2.1.2]; exact hEQ.2.2.2.2.2.1.1) ⟨fun y => absurd y (by decide), fun _ => hEQ.2.2.2.2.2.2.1.1⟩ hEQ.2.2.2.2.2.2.1.2 (by decide) hnx2 hpl hmk2 hCK hEQ.2.2.2.2.2.1.1 hRO2.1 (by omega) hN00 hsf hrm hco (by omega) hC24b) (fun Q32 q32 => ?_)
                obtain ⟨u32, r32, z32, hKL3, hres⟩ := q32
                have ht32 : ur m C H Q32 := ht28.trans r32
                obtain ⟨V32, d32⟩ : ∃ V, ud m Q32 = V := ⟨_, rfl⟩
                rw [d32] at z32 hKL3 hres
                have qf32 : uq F291 U V32 := qf28.tr z32 rfl
                have hRGn := hRO2.step (z32.l 145 rfl) hres
                refine mw_go mu_g291 (k := 1) (f1 := (242, [(10, .inl (nI (((rwa (Va.1 23) k) + (rwn (Va.1 23) k)) - 1))), (9, .inl (nI ((rwa (Va.1 23) k) + 1))), (8, .inl (nI pl)), (7, .inl (nI r)), (6, .inl (nI (rwi (Va.1 23) k))), (5, .inl (nI (((rwa (Va.1 23) k) + (rwn (Va.1 23) k)) - 1))), (4, .inl (nI (rwa (Va.1 23) k))), (3, .inl (-1 : Int32)), (2, .inl (nI k)), (0, .inr (.inr (some 129))), (1, .inr (.inr (some m)))], [], Q32)) (C := []) rfl trivial ?_
                obtain ⟨hP1, hP2, hP4⟩ := pnd_take (U := U) (f := f) (P := P) (od := od) (t := Va.1 23) (k := k) hPCa (by omega) (by omega) (by omega) hY11 (by omega)
                have hT1 : V32.1 23 = tset 5 (Va.1 23) (nI k) 1 (nI (rwa (Va.1 23) k)) := by
                  have y1 : V32.1 23 = (upT V21 (ax 23 V21.1 (nI k) 1 (nI (rwa (Va.1 23) k)))).1 23 := (z32.t 23 rfl).trans (z28.t 23 rfl)
                  rw [y1, ← (show V21.1 23 = Va.1 23 from (z21.t 23 rfl))]
                  rfl
                refine mw_go mu_g291 (k := 1) (f1 := (245, [(2, .inl ((nI k) + 1)), (10, .inl (nI (((rwa (Va.1 23) k) + (rwn (Va.1 23) k)) - 1))), (9, .inl (nI ((rwa (Va.1 23) k) + 1))), (8, .inl (nI pl)), (7, .inl (nI r)), (6, .inl (nI (rwi (Va.1 23) k))), (5, .inl (nI (((rwa (Va.1 23) k) + (rwn (Va.1 23) k)) - 1))), (4, .inl (nI (rwa (Va.1 23) k))), (3, .inl (-1 : Int32)), (0, .inr (.inr (some 129))), (1, .inr (.inr (some m)))], [], Q32)) (C := []) rfl trivial ?_
                rw [(show ((nI k) + 1) = (nI (k + 1)) from (nI_add k 1))]
                refine mw_go mu_g291 (k := 1) (f1 := (10, [(2, .inl (nI (k + 1))), (10, .inl (nI (((rwa (Va.1 23) k) + (rwn (Va.1 23) k)) - 1))), (9, .inl (nI ((rwa (Va.1 23) k) + 1))), (8, .inl (nI pl)), (7, .inl (nI r)), (6, .inl (nI (rwi (Va.1 23) k))), (5, .inl (nI (((rwa (Va.1 23) k) + (rwn (Va.1 23) k)) - 1))), (4, .inl (nI (rwa (Va.1 23) k))), (3, .inl (-1 : Int32)), (0, .inr (.inr (some 129))), (1, .inr (.inr (some m)))], [], Q32)) (C := []) rfl trivial ?_
                exact mw_sub (by simp) (iha (k + 1, Q32) ⟨u32, ht32, (show uq F291a U (ud m Q32) from by rw [d32]; exact ((((zza.tr z21 rfl).T (fun q hq => by first | exact ax_ne (in1_ne rfl hq) | exact ap_ne (in1_ne rfl hq) | exact fu_ne _ _ (in1_ne rfl hq))).tr z28 rfl).tr z32 rfl)), (show (k + 1) ≤ ((ud m Q32).1 23).1 from by rw [d32]; exact (by rw [hT1, hP2]; omega)), (show True ∧ ((ud m Q32).1 23).1 = (U.1 23).1 from by rw [d32]; exact (by rw [hT1, hP2]; exact hszE)), (show RSK m (ud m Q32) Y P f od es from by rw [d32]; exact (RSKL.kk hKL3 (by omega) hPk.2.1)), (show ∀ r, r < ((ud m Q32).1 23).1 → PCT Y es ((ud m Q32).1 23) r from by rw [d32]; exact (by rw [hT1]; exact hP1)), (show ∃ G, RLG (ud m Q32) Y es P f od N0 O0 sf nb bo br ba bn bi (cnt + (k + 1)) G ∧ ∀ b s u, b < nb → s < pd f 0 P → u < pd f 0 P → ((G b s u ∧ (b + 1 = nb → PND Y U f P od ((ud m Q32).1 23) s u)) ↔ (G0 b s u ∧ (b + 1 = nb → PND Y U f P od (U.1 23) s u))) from by rw [d32]; exact ⟨_, hRGn, fun b s u hb hs hu => eqm_step (hGm b s u hb hs hu) (by rw [hT1, hP4 s u, hnn, hXX s u])⟩)⟩ (by show (U.1 23).1 - (k + 1) < (U.1 23).1 - k; omega))
            · -- 219: not (nI (oc Y ((rwa (Va.1 23) k) + nn))) = (30 : Int32)
              have nh26 : ¬ (oc Y ((rwa (Va.1 23) k) + nn)) = 30 := fun z => h26 (show nI (oc Y ((rwa (Va.1 23) k) + nn)) = nI 30 from (nI_eq (by omega) (by omega)).mpr z)
              have hm1 : mo = 1 := hmo1 (by omega)
              refine mw_go mu_g291 (k := 1) (f1 := (220, [(10, .inl (nI (((rwa (Va.1 23) k) + (rwn (Va.1 23) k)) - 1))), (9, .inl (nI ((rwa (Va.1 23) k) + 1))), (8, .inl (nI pl)), (7, .inl (nI r)), (6, .inl (nI (rwi (Va.1 23) k))), (5, .inl (nI (((rwa (Va.1 23) k) + (rwn (Va.1 23) k)) - 1))), (4, .inl (nI (rwa (Va.1 23) k))), (3, .inl (-1 : Int32)), (2, .inl (nI k)), (0, .inr (.inr (some 129))), (1, .inr (.inr (some m)))], [.inl (1 : Int32), .inl (nI pl), .inr (.inr (some 129))], Q24)) (C := []) rfl trivial ?_
              obtain ⟨G, ⟨A, N, us, S, z, p, nf, nm, tm, bs, lv, oid, nw, wa, wn, wi, wk, ou, hRO⟩, hGm⟩ := hRG
              have hRO1 := hRO.q (F := F291x) (V := (upT V21 (ax 23 V21.1 (nI k) 1 (nI (rwa (Va.1 23) k))))) (((uq.refl F291x Va).tr z21 rfl).T (fun q hq => by first | exact ax_ne (in1_ne rfl hq) | exact ap_ne (in1_ne rfl hq) | exact fu_ne _ _ (in1_ne rfl hq))) rfl rfl
              have hcn1 := hRO1.2.1
              have hKL1 : RSKL m (upT V21 (ax 23 V21.1 (nI k) 1 (nI (rwa (Va.1 23) k)))) Y P f od es ((rwa (Va.1 23) k) + 1) (nn - 1) (rwi (Va.1 23) k) := hKL.q (F := F129) ((uq.refl F129 V21).T (fun q hq => by first | exact ax_ne (in1_ne rfl hq) | exact ap_ne (in1_ne rfl hq) | exact fu_ne _ _ (in1_ne rfl hq))) rfl rfl
              have hmk1 : (upT V21 (ax 23 V21.1 (nI k) 1 (nI (rwa (Va.1 23) k)))).2.1 100 4 = mk := hmk
              refine mw_cI (fun _ => rfl) (show mu_is Q24 (some 129) 9 from (u24.1.1.is rfl)) (rl_roomP (d := (d + 4)) (C := C) (k := pl) (mo := 1) u24 d24 hKL1.1.1 hKL1.1.2.1 hpl hRO1.1 hmk1 (by omega)) (fun x33 Q33 q33 => ?_)
              rcases q33 with ⟨rfl, u33, r33, z33⟩ | ⟨rfl, u33, r33, z33, hrm, hco⟩
              · -- (0 : Int32)
                have ht33 : ur m C H Q33 := ht24.trans r33
                obtain ⟨V33, d33⟩ : ∃ V, ud m Q33 = V := ⟨_, rfl⟩
                rw [d33] at z33
                have qf33 : uq F291 U V33 := qf24.tr z33 rfl
                have hRO2 := hRO1.q z33 rfl rfl
                have hKL2 := hKL1.q z33 rfl rfl
                have hmk2 := (z33.i 100 4 rfl).trans hmk1
                have hnx2 : ¬ NXW Y (V33.1 15) P ((rwa (Va.1 23) k) + 1) (nn - 1) (rwi (Va.1 23) k) := hKL2.nxw hmk2 hmz
                refine mw_if (P := (0 : Int32) = 0) (a := 235) (b := 226) (fun _ => rfl) trivial (fun h34 => ?_) (fun h34 => absurd (by decide) h34)
                refine mw_go mu_g291 (k := 3) (f1 := (239, [(10, .inl (nI (((rwa (Va.1 23) k) + (rwn (Va.1 23) k)) - 1))), (9, .inl (nI ((rwa (Va.1 23) k) + 1))), (8, .inl (nI pl)), (7, .inl (nI r)), (6, .inl (nI (rwi (Va.1 23) k))), (5, .inl (nI (((rwa (Va.1 23) k) + (rwn (Va.1 23) k)) - 1))), (4, .inl (nI (rwa (Va.1 23) k))), (3, .inl (-1 : Int32)), (2, .inl (nI k)), (0, .inr (.inr (some 129))), (1, .inr (.inr (some m)))], [.inl (0 : Int32), .inl (nI pl), .inr (.inr (some 129))], Q33)) (C := []) rfl trivial ?_
                have hXX : ∀ s t, (CHSw Y V33 f P od false ((rwa (Va.1 23) k) + 1) (nn - 1) (rwi (Va.1 23) k) s ((V33.2.2.1 99 8).2 (sm f 0 pl + dgzU f P t pl)) ↔ trs Y U f P od (rwi (Va.1 23) k) (rwa (Va.1 23) k) (nn + 1) s t = 1) := fun s t => by
                  rw [hEQ.2.2.2.2.2.2.2 V33 m P f od mk pl hKL2.1 hKL2.2.2.1 hmk2 hnx2 (by rw [(show (V33.1 15) = (Va.1 15) from ((z33.t 15 rfl).trans (z21.t 15 rfl)))]; exact hpc) (by have y := hK.1.P14; omega) s t, trs_same (U := U) (show (V33.1 15) = (U.1 15) from ((z33.t 15 rfl).trans ((z21.t 15 rfl).trans (zza.t 15 rfl)))) (show (V33.2.2.1 99 8) = (U.2.2.1 99 8) from ((z33.a 99 8 rfl).trans ((z21.a 99 8 rfl).trans (zza.a 99 8 rfl))))]
                refine mw_cV (fun _ => rfl) (show mu_is Q33 (some 129) 9 from (u33.1.1.is rfl)) (rl_asideC (d := (d + 4)) (C := C) (a := ((rwa (Va.1 23) k) + 1)) (n := (nn - 1)) (i := (rwi (Va.1 23) k)) (k := pl) (bb := false) u33 d33 hKL2 hPk.2.1 hEQ.2.2.2.2.1 (by rw [hEQ.2.2.2.2.2.1.2]; exact hEQ.2.2.2.2.2.1.1) ⟨fun y => absurd y (by decide), fun _ => hEQ.2.2.2.2.2.2.1.1⟩ hEQ.2.2.2.2.2.2.1.2 (by decide) hnx2 hpl hRO2.1 (by omega) (by omega) hC25b) (fun Q35 q35 => ?_)
                obtain ⟨u35, r35, z35, hKL3, hres⟩ := q35
                have ht35 : ur m C H Q35 := ht33.trans r35
                obtain ⟨V35, d35⟩ : ∃ V, ud m Q35 = V := ⟨_, rfl⟩
                rw [d35] at z35 hKL3 hres
                have qf35 : uq F291 U V35 := qf33.tr z35 rfl
                have hRGn := hRO2.step (z35.l 145 rfl) hres
                obtain ⟨hP1, hP2, hP4⟩ := pnd_take (U := U) (f := f) (P := P) (od := od) (t := Va.1 23) (k := k) hPCa (by omega) (by omega) (by omega) hY11 (by omega)
                have hT1 : V35.1 23 = tset 5 (Va.1 23) (nI k) 1 (nI (rwa (Va.1 23) k)) := by
                  have y1 : V35.1 23 = (upT V21 (ax 23 V21.1 (nI k) 1 (nI (rwa (Va.1 23) k)))).1 23 := (z35.t 23 rfl).trans (z33.t 23 rfl)
                  rw [y1, ← (show V21.1 23 = Va.1 23 from (z21.t 23 rfl))]
                  rfl
                refine mw_go mu_g291 (k := 1) (f1 := (245, [(2, .inl ((nI k) + 1)), (10, .inl (nI (((rwa (Va.1 23) k) + (rwn (Va.1 23) k)) - 1))), (9, .inl (nI ((rwa (Va.1 23) k) + 1))), (8, .inl (nI pl)), (7, .inl (nI r)), (6, .inl (nI (rwi (Va.1 23) k))), (5, .inl (nI (((rwa (Va.1 23) k) + (rwn (Va.1 23) k)) - 1))), (4, .inl (nI (rwa (Va.1 23) k))), (3, .inl (-1 : Int32)), (0, .inr (.inr (some 129))), (1, .inr (.inr (some m)))], [], Q35)) (C := []) rfl trivial ?_
                rw [(show ((nI k) + 1) = (nI (k + 1)) from (nI_add k 1))]
                refine mw_go mu_g291 (k := 1) (f1 := (10, [(2, .inl (nI (k + 1))), (10, .inl (nI (((rwa (Va.1 23) k) + (rwn (Va.1 23) k)) - 1))), (9, .inl (nI ((rwa (Va.1 23) k) + 1))), (8, .inl (nI pl)), (7, .inl (nI r)), (6, .inl (nI (rwi (Va.1 23) k))), (5, .inl (nI (((rwa (Va.1 23) k) + (rwn (Va.1 23) k)) - 1))), (4, .inl (nI (rwa (Va.1 23) k))), (3, .inl (-1 : Int32)), (0, .inr (.inr (some 129))), (1, .inr (.inr (some m)))], [], Q35)) (C := []) rfl trivial ?_
                exact mw_sub (by simp) (iha (k + 1, Q35) ⟨u35, ht35, (show uq F291a U (ud m Q35) from by rw [d35]; exact ((((zza.tr z21 rfl).T (fun q hq => by first | exact ax_ne (in1_ne rfl hq) | exact ap_ne (in1_ne rfl hq) | exact fu_ne _ _ (in1_ne rfl hq))).tr z33 rfl).tr z35 rfl)), (show (k + 1) ≤ ((ud m Q35).1 23).1 from by rw [d35]; exact (by rw [hT1, hP2]; omega)), (show True ∧ ((ud m Q35).1 23).1 = (U.1 23).1 from by rw [d35]; exact (by rw [hT1, hP2]; exact hszE)), (show RSK m (ud m Q35) Y P f od es from by rw [d35]; exact (RSKL.kk hKL3 (by omega) hPk.2.1)), (show ∀ r, r < ((ud m Q35).1 23).1 → PCT Y es ((ud m Q35).1 23) r from by rw [d35]; exact (by rw [hT1]; exact hP1)), (show ∃ G, RLG (ud m Q35) Y es P f od N0 O0 sf nb bo br ba bn bi (cnt + (k + 1)) G ∧ ∀ b s u, b < nb → s < pd f 0 P → u < pd f 0 P → ((G b s u ∧ (b + 1 = nb → PND Y U f P od ((ud m Q35).1 23) s u)) ↔ (G0 b s u ∧ (b + 1 = nb → PND Y U f P od (U.1 23) s u))) from by rw [d35]; exact ⟨_, hRGn, fun b s u hb hs hu => eqm_step (hGm b s u hb hs hu) (by rw [hT1, hP4 s u, hnn, hXX s u])⟩)⟩ (by show (U.1 23).1 - (k + 1) < (U.1 23).1 - k; omega))
              · -- (1 : Int32)
                have ht33 : ur m C H Q33 := ht24.trans r33
                obtain ⟨V33, d33⟩ : ∃ V, ud m Q33 = V := ⟨_, rfl⟩
                rw [d33] at z33
                have qf33 : uq F291 U V33 := qf24.tr z33 rfl
                have hRO2 := hRO1.q z33 rfl rfl
                have hKL2 := hKL1.q z33 rfl rfl
                have hmk2 := (z33.i 100 4 rfl).trans hmk1
                have hnx2 : ¬ NXW Y (V33.1 15) P ((rwa (Va.1 23) k) + 1) (nn - 1) (rwi (Va.1 23) k) := hKL2.nxw hmk2 hmz
                refine mw_if (P := (1 : Int32) = 0) (a := 235) (b := 226) (fun _ => rfl) trivial (fun h36 => absurd h36 (by decide)) (fun h36 => ?_)
                refine mw_go mu_g291 (k := 2) (f1 := (229, [(10, .inl (nI (((rwa (Va.1 23) k) + (rwn (Va.1 23) k)) - 1))), (9, .inl (nI ((rwa (Va.1 23) k) + 1))), (8, .inl (nI pl)), (7, .inl (nI r)), (6, .inl (nI (rwi (Va.1 23) k))), (5, .inl (nI (((rwa (Va.1 23) k) + (rwn (Va.1 23) k)) - 1))), (4, .inl (nI (rwa (Va.1 23) k))), (3, .inl (-1 : Int32)), (2, .inl (nI k)), (0, .inr (.inr (some 129))), (1, .inr (.inr (some m)))], [.inl (nI pl), .inr (.inr (some 129))], Q33)) (C := []) rfl trivial ?_
                have hXX : ∀ s t, (CHSw Y V33 f P od false ((rwa (Va.1 23) k) + 1) (nn - 1) (rwi (Va.1 23) k) s ((V33.2.2.1 99 8).2 (sm f 0 pl + dgzU f P t pl)) ↔ trs Y U f P od (rwi (Va.1 23) k) (rwa (Va.1 23) k) (nn + 1) s t = 1) := fun s t => by
                  rw [hEQ.2.2.2.2.2.2.2 V33 m P f od mk pl hKL2.1 hKL2.2.2.1 hmk2 hnx2 (by rw [(show (V33.1 15) = (Va.1 15) from ((z33.t 15 rfl).trans (z21.t 15 rfl)))]; exact hpc) (by have y := hK.1.P14; omega) s t, trs_same (U := U) (show (V33.1 15) = (U.1 15) from ((z33.t 15 rfl).trans ((z21.t 15 rfl).trans (zza.t 15 rfl)))) (show (V33.2.2.1 99 8) = (U.2.2.1 99 8) from ((z33.a 99 8 rfl).trans ((z21.a 99 8 rfl).trans (zza.a 99 8 rfl))))]
                have hCK : CHK Y false ((rwa (Va.1 23) k) + 1) (nn - 1) (1) := ⟨fun y => absurd y (by decide), fun _ => by
                  have y := kst_tp hEQ.2.2.2.2.1.2.2.1
                  rw [Nat.add_sub_cancel_left, hEQ.2.2.2.2.2.1.2] at y
                  omega⟩
                refine mw_cV (fun _ => rfl) (show mu_is Q33 (some 129) 9 from (u33.1.1.is rfl)) (rl_tabP (d := d) (C := C) (a := ((rwa (Va.1 23) k) + 1)) (n := (nn - 1)) (i := (rwi (Va.1 23) k)) (k := pl) (mo := 1) (bb := false) u33 d33 hKL2 hPk.2.1 hEQ.2.2.2.2.1 (by rw [hEQ.2.2.2.2.2.1.2]; exact hEQ.2.2.2.2.2.1.1) ⟨fun y => absurd y (by decide), fun _ => hEQ.2.2.2.2.2.2.1.1⟩ hEQ.2.2.2.2.2.2.1.2 (by decide) hnx2 hpl hmk2 hCK (Nat.le_refl _) hRO2.1 (by omega) hN00 hsf hrm hco (by omega) hC24b) (fun Q37 q37 => ?_)
                obtain ⟨u37, r37, z37, hKL3, hres⟩ := q37
                have ht37 : ur m C H Q37 := ht33.trans r37
                obtain ⟨V37, d37⟩ : ∃ V, ud m Q37 = V := ⟨_, rfl⟩
                rw [d37] at z37 hKL3 hres
                have qf37 : uq F291 U V37 := qf33.tr z37 rfl
                have hRGn := hRO2.step (z37.l 145 rfl) hres
                refine mw_go mu_g291 (k := 1) (f1 := (242, [(10, .inl (nI (((rwa (Va.1 23) k) + (rwn (Va.1 23) k)) - 1))), (9, .inl (nI ((rwa (Va.1 23) k) + 1))), (8, .inl (nI pl)), (7, .inl (nI r)), (6, .inl (nI (rwi (Va.1 23) k))), (5, .inl (nI (((rwa (Va.1 23) k) + (rwn (Va.1 23) k)) - 1))), (4, .inl (nI (rwa (Va.1 23) k))), (3, .inl (-1 : Int32)), (2, .inl (nI k)), (0, .inr (.inr (some 129))), (1, .inr (.inr (some m)))], [], Q37)) (C := []) rfl trivial ?_
                obtain ⟨hP1, hP2, hP4⟩ := pnd_take (U := U) (f := f) (P := P) (od := od) (t := Va.1 23) (k := k) hPCa (by omega) (by omega) (by omega) hY11 (by omega)
                have hT1 : V37.1 23 = tset 5 (Va.1 23) (nI k) 1 (nI (rwa (Va.1 23) k)) := by
                  have y1 : V37.1 23 = (upT V21 (ax 23 V21.1 (nI k) 1 (nI (rwa (Va.1 23) k)))).1 23 := (z37.t 23 rfl).trans (z33.t 23 rfl)
                  rw [y1, ← (show V21.1 23 = Va.1 23 from (z21.t 23 rfl))]
                  rfl
                refine mw_go mu_g291 (k := 1) (f1 := (245, [(2, .inl ((nI k) + 1)), (10, .inl (nI (((rwa (Va.1 23) k) + (rwn (Va.1 23) k)) - 1))), (9, .inl (nI ((rwa (Va.1 23) k) + 1))), (8, .inl (nI pl)), (7, .inl (nI r)), (6, .inl (nI (rwi (Va.1 23) k))), (5, .inl (nI (((rwa (Va.1 23) k) + (rwn (Va.1 23) k)) - 1))), (4, .inl (nI (rwa (Va.1 23) k))), (3, .inl (-1 : Int32)), (0, .inr (.inr (some 129))), (1, .inr (.inr (some m)))], [], Q37)) (C := []) rfl trivial ?_
                rw [(show ((nI k) + 1) = (nI (k + 1)) from (nI_add k 1))]
                refine mw_go mu_g291 (k := 1) (f1 := (10, [(2, .inl (nI (k + 1))), (10, .inl (nI (((rwa (Va.1 23) k) + (rwn (Va.1 23) k)) - 1))), (9, .inl (nI ((rwa (Va.1 23) k) + 1))), (8, .inl (nI pl)), (7, .inl (nI r)), (6, .inl (nI (rwi (Va.1 23) k))), (5, .inl (nI (((rwa (Va.1 23) k) + (rwn (Va.1 23) k)) - 1))), (4, .inl (nI (rwa (Va.1 23) k))), (3, .inl (-1 : Int32)), (0, .inr (.inr (some 129))), (1, .inr (.inr (some m)))], [], Q37)) (C := []) rfl trivial ?_
                exact mw_sub (by simp) (iha (k + 1, Q37) ⟨u37, ht37, (show uq F291a U (ud m Q37) from by rw [d37]; exact ((((zza.tr z21 rfl).T (fun q hq => by first | exact ax_ne (in1_ne rfl hq) | exact ap_ne (in1_ne rfl hq) | exact fu_ne _ _ (in1_ne rfl hq))).tr z33 rfl).tr z37 rfl)), (show (k + 1) ≤ ((ud m Q37).1 23).1 from by rw [d37]; exact (by rw [hT1, hP2]; omega)), (show True ∧ ((ud m Q37).1 23).1 = (U.1 23).1 from by rw [d37]; exact (by rw [hT1, hP2]; exact hszE)), (show RSK m (ud m Q37) Y P f od es from by rw [d37]; exact (RSKL.kk hKL3 (by omega) hPk.2.1)), (show ∀ r, r < ((ud m Q37).1 23).1 → PCT Y es ((ud m Q37).1 23) r from by rw [d37]; exact (by rw [hT1]; exact hP1)), (show ∃ G, RLG (ud m Q37) Y es P f od N0 O0 sf nb bo br ba bn bi (cnt + (k + 1)) G ∧ ∀ b s u, b < nb → s < pd f 0 P → u < pd f 0 P → ((G b s u ∧ (b + 1 = nb → PND Y U f P od ((ud m Q37).1 23) s u)) ↔ (G0 b s u ∧ (b + 1 = nb → PND Y U f P od (U.1 23) s u))) from by rw [d37]; exact ⟨_, hRGn, fun b s u hb hs hu => eqm_step (hGm b s u hb hs hu) (by rw [hT1, hP4 s u, hnn, hXX s u])⟩)⟩ (by show (U.1 23).1 - (k + 1) < (U.1 23).1 - k; omega))
          · -- 242: not ((mk.toUInt32 >>> ((14 : Int32).toUInt32 &&& Int32.toUInt32 31)).toInt32) = 0
            refine mw_go mu_g291 (k := 1) (f1 := (245, [(2, .inl ((nI k) + 1)), (10, .inl (nI (((rwa (Va.1 23) k) + (rwn (Va.1 23) k)) - 1))), (9, .inl (nI ((rwa (Va.1 23) k) + 1))), (8, .inl (nI pl)), (7, .inl (nI r)), (6, .inl (nI (rwi (Va.1 23) k))), (5, .inl (nI (((rwa (Va.1 23) k) + (rwn (Va.1 23) k)) - 1))), (4, .inl (nI (rwa (Va.1 23) k))), (3, .inl (-1 : Int32)), (0, .inr (.inr (some 129))), (1, .inr (.inr (some m)))], [], Q21)) (C := []) rfl trivial ?_
            rw [(show ((nI k) + 1) = (nI (k + 1)) from (nI_add k 1))]
            refine mw_go mu_g291 (k := 1) (f1 := (10, [(2, .inl (nI (k + 1))), (10, .inl (nI (((rwa (Va.1 23) k) + (rwn (Va.1 23) k)) - 1))), (9, .inl (nI ((rwa (Va.1 23) k) + 1))), (8, .inl (nI pl)), (7, .inl (nI r)), (6, .inl (nI (rwi (Va.1 23) k))), (5, .inl (nI (((rwa (Va.1 23) k) + (rwn (Va.1 23) k)) - 1))), (4, .inl (nI (rwa (Va.1 23) k))), (3, .inl (-1 : Int32)), (0, .inr (.inr (some 129))), (1, .inr (.inr (some m)))], [], Q21)) (C := []) rfl trivial ?_
            exact mw_sub (by simp) (iha (k + 1, Q21) ⟨u21, ht21, (show uq F291a U (ud m Q21) from by rw [d21]; exact (zza.tr z21 rfl)), (show (k + 1) ≤ ((ud m Q21).1 23).1 from by rw [d21]; exact (by rw [(show (V21.1 23) = (Va.1 23) from (z21.t 23 rfl))]; omega)), (show True ∧ ((ud m Q21).1 23).1 = (U.1 23).1 from by rw [d21]; exact (by rw [(show (V21.1 23) = (Va.1 23) from (z21.t 23 rfl))]; exact hszE)), (show RSK m (ud m Q21) Y P f od es from by rw [d21]; exact (RSKL.kk hKL (by omega) hPk.2.1)), (show ∀ r, r < ((ud m Q21).1 23).1 → PCT Y es ((ud m Q21).1 23) r from by rw [d21]; exact (by rw [(show (V21.1 23) = (Va.1 23) from (z21.t 23 rfl))]; exact hPCa)), (show ∃ G, RLG (ud m Q21) Y es P f od N0 O0 sf nb bo br ba bn bi (cnt + (k + 1)) G ∧ ∀ b s u, b < nb → s < pd f 0 P → u < pd f 0 P → ((G b s u ∧ (b + 1 = nb → PND Y U f P od ((ud m Q21).1 23) s u)) ↔ (G0 b s u ∧ (b + 1 = nb → PND Y U f P od (U.1 23) s u))) from by rw [d21]; exact (by obtain ⟨G, hG1, hG2⟩ := hRG; refine ⟨G, (hG1.q (F := F203) (show uq F203 Va V21 from ((uq.refl F203 Va).tr z21 rfl)) rfl rfl).mono (by omega) (fun _ _ _ _ _ _ => Iff.rfl), ?_⟩; rw [(show (V21.1 23) = (Va.1 23) from (z21.t 23 rfl))]; exact hG2))⟩ (by show (U.1 23).1 - (k + 1) < (U.1 23).1 - k; omega))
      · -- (1 : Int32)
        rw [hHe]
        obtain ⟨r, w, Lk, rs, hEQ, her⟩ := eqs_r hD.1 hPk.2.1 hwk ho1 ho2 ho3
        refine mw_go mu_g291 (k := 2) (f1 := (28, [(3, .inl (1 : Int32)), (2, .inl (nI k)), (0, .inr (.inr (some 129))), (1, .inr (.inr (some m)))], [.inl (1 : Int32)], Hsa)) (C := []) rfl trivial ?_
        refine mw_if (P := (1 : Int32) = 0) (a := 31) (b := 34) (fun _ => rfl) trivial (fun h38 => absurd h38 (by decide)) (fun h38 => ?_)
        refine mw_go mu_g291 (k := 2) (f1 := (38, [(3, .inl (1 : Int32)), (2, .inl (nI k)), (0, .inr (.inr (some 129))), (1, .inr (.inr (some m)))], [.inr (.inr (mu_r Hsa 129 2))], Hsa)) (C := [mu_is Hsa (some 129) 9]) rfl (show mu_is Hsa (some 129) 9 from (ua.1.1.is rfl)) ?_
        rw [(ua.1.1.r (p := 129) (j := 2) (q := 118) rfl)]
        refine mw_go mu_g291 (k := 2) (f1 := (40, [(3, .inl (1 : Int32)), (2, .inl (nI k)), (0, .inr (.inr (some 129))), (1, .inr (.inr (some m)))], [.inl (0 : Int32), .inl (nI k), .inr (.inr (some 118))], Hsa)) (C := []) rfl trivial ?_
        refine mw_cIe (fun _ => rfl) (show mu_is Hsa (some 118) 10 from (ua.1.1.is rfl)) (ua.getr (d := (d + 7)) da (j := 23) (by decide) rfl (nI k) (c := 0) (by decide)) ?_
        rw [show (tget (Va.1 23) (nI k) 0) = (nI (rwa (Va.1 23) k)) from ((congrArg (fun z => tget z (nI k) 0) (show Va.1 23 = (Va.1 23) from rfl)).trans (tget_nI (by first | omega | decide))).trans hPk.1.1]
        refine mw_go mu_g291 (k := 3) (f1 := (49, [(4, .inl (nI (rwa (Va.1 23) k))), (3, .inl (1 : Int32)), (2, .inl (nI k)), (0, .inr (.inr (some 129))), (1, .inr (.inr (some m)))], [.inr (.inr (mu_r Hsa 129 2))], Hsa)) (C := [mu_is Hsa (some 129) 9]) rfl (show mu_is Hsa (some 129) 9 from (ua.1.1.is rfl)) ?_
        rw [(ua.1.1.r (p := 129) (j := 2) (q := 118) rfl)]
        refine mw_go mu_g291 (k := 2) (f1 := (51, [(4, .inl (nI (rwa (Va.1 23) k))), (3, .inl (1 : Int32)), (2, .inl (nI k)), (0, .inr (.inr (some 129))), (1, .inr (.inr (some m)))], [.inl (1 : Int32), .inl (nI k), .inr (.inr (some 118))], Hsa)) (C := []) rfl trivial ?_
        refine mw_cIe (fun _ => rfl) (show mu_is Hsa (some 118) 10 from (ua.1.1.is rfl)) (ua.getr (d := (d + 7)) da (j := 23) (by decide) rfl (nI k) (c := 1) (by decide)) ?_
        rw [show (tget (Va.1 23) (nI k) 1) = (nI ((rwa (Va.1 23) k) + (rwn (Va.1 23) k))) from ((congrArg (fun z => tget z (nI k) 1) (show Va.1 23 = (Va.1 23) from rfl)).trans (tget_nI (by first | omega | decide))).trans hPk.1.2.1]
        refine mw_go mu_g291 (k := 2) (f1 := (56, [(4, .inl (nI (rwa (Va.1 23) k))), (3, .inl (1 : Int32)), (2, .inl (nI k)), (0, .inr (.inr (some 129))), (1, .inr (.inr (some m)))], [.inl ((nI ((rwa (Va.1 23) k) + (rwn (Va.1 23) k))) - (1 : Int32))], Hsa)) (C := []) rfl trivial ?_
        rw [(show ((nI ((rwa (Va.1 23) k) + (rwn (Va.1 23) k))) - (1 : Int32)) = (nI (((rwa (Va.1 23) k) + (rwn (Va.1 23) k)) - 1)) from (nI_sub (a := (rwa (Va.1 23) k) + (rwn (Va.1 23) k)) (b := 1) (by omega)))]
        refine mw_go mu_g291 (k := 3) (f1 := (62, [(5, .inl (nI (((rwa (Va.1 23) k) + (rwn (Va.1 23) k)) - 1))), (4, .inl (nI (rwa (Va.1 23) k))), (3, .inl (1 : Int32)), (2, .inl (nI k)), (0, .inr (.inr (some 129))), (1, .inr (.inr (some m)))], [.inr (.inr (mu_r Hsa 129 2))], Hsa)) (C := [mu_is Hsa (some 129) 9]) rfl (show mu_is Hsa (some 129) 9 from (ua.1.1.is rfl)) ?_
        rw [(ua.1.1.r (p := 129) (j := 2) (q := 118) rfl)]
        refine mw_go mu_g291 (k := 2) (f1 := (64, [(5, .inl (nI (((rwa (Va.1 23) k) + (rwn (Va.1 23) k)) - 1))), (4, .inl (nI (rwa (Va.1 23) k))), (3, .inl (1 : Int32)), (2, .inl (nI k)), (0, .inr (.inr (some 129))), (1, .inr (.inr (some m)))], [.inl (2 : Int32), .inl (nI k), .inr (.inr (some 118))], Hsa)) (C := []) rfl trivial ?_
        refine mw_cIe (fun _ => rfl) (show mu_is Hsa (some 118) 10 from (ua.1.1.is rfl)) (ua.getr (d := (d + 7)) da (j := 23) (by decide) rfl (nI k) (c := 2) (by decide)) ?_
        rw [show (tget (Va.1 23) (nI k) 2) = (nI (rwi (Va.1 23) k)) from ((congrArg (fun z => tget z (nI k) 2) (show Va.1 23 = (Va.1 23) from rfl)).trans (tget_nI (by first | omega | decide))).trans hPk.1.2.2]
        refine mw_go mu_g291 (k := 3) (f1 := (73, [(6, .inl (nI (rwi (Va.1 23) k))), (5, .inl (nI (((rwa (Va.1 23) k) + (rwn (Va.1 23) k)) - 1))), (4, .inl (nI (rwa (Va.1 23) k))), (3, .inl (1 : Int32)), (2, .inl (nI k)), (0, .inr (.inr (some 129))), (1, .inr (.inr (some m)))], [.inr (.inr (mu_r Hsa m 0))], Hsa)) (C := [mu_is Hsa (some m) 6]) rfl (show mu_is Hsa (some m) 6 from (show mu_is Hsa (some m) 6 from gi_im ua.1.1 ua.2)) ?_
        rw [(show mu_r Hsa m 0 = some (m + 1) from (gi_mr ua.1.1 ua.2 (j := 0) (by decide)).trans (congrArg some (by omega)))]
        refine mw_go mu_g291 (k := 1) (f1 := (74, [(6, .inl (nI (rwi (Va.1 23) k))), (5, .inl (nI (((rwa (Va.1 23) k) + (rwn (Va.1 23) k)) - 1))), (4, .inl (nI (rwa (Va.1 23) k))), (3, .inl (1 : Int32)), (2, .inl (nI k)), (0, .inr (.inr (some 129))), (1, .inr (.inr (some m)))], [.inl (1 : Int32), .inr (.inr (some (m + 1)))], Hsa)) (C := []) rfl trivial ?_
        refine mw_if (P := (1 : Int32) < 0) (a := 77) (b := 82) (fun _ => rfl) trivial (fun h42 => absurd h42 (by decide)) (fun h42 => ?_)
        refine mw_go mu_g291 (k := 3) (f1 := (86, [(6, .inl (nI (rwi (Va.1 23) k))), (5, .inl (nI (((rwa (Va.1 23) k) + (rwn (Va.1 23) k)) - 1))), (4, .inl (nI (rwa (Va.1 23) k))), (3, .inl (1 : Int32)), (2, .inl (nI k)), (0, .inr (.inr (some 129))), (1, .inr (.inr (some m)))], [.inl ((nI (((rwa (Va.1 23) k) + (rwn (Va.1 23) k)) - 1)) - (1 : Int32)), .inr (.inr (some (m + 1)))], Hsa)) (C := []) rfl trivial ?_
        rw [(show ((nI (((rwa (Va.1 23) k) + (rwn (Va.1 23) k)) - 1)) - (1 : Int32)) = (nI ((((rwa (Va.1 23) k) + (rwn (Va.1 23) k)) - 1) - 1)) from (nI_sub (a := ((rwa (Va.1 23) k) + (rwn (Va.1 23) k)) - 1) (b := 1) (by omega)))]
        refine mw_go mu_g291 (k := 1) (f1 := (87, [(6, .inl (nI (rwi (Va.1 23) k))), (5, .inl (nI (((rwa (Va.1 23) k) + (rwn (Va.1 23) k)) - 1))), (4, .inl (nI (rwa (Va.1 23) k))), (3, .inl (1 : Int32)), (2, .inl (nI k)), (0, .inr (.inr (some 129))), (1, .inr (.inr (some m)))], [.inl (1 : Int32), .inl (nI ((((rwa (Va.1 23) k) + (rwn (Va.1 23) k)) - 1) - 1)), .inr (.inr (some (m + 1)))], Hsa)) (C := []) rfl trivial ?_
        refine mw_cIe (fun _ => rfl) (show mu_is Hsa (some (m + 1)) 10 from ((ua.1.1.w (md_w0 ua.2)).1)) (ua.getr (d := (d + 7)) da (j := 0) (by decide) rfl (nI ((((rwa (Va.1 23) k) + (rwn (Va.1 23) k)) - 1) - 1)) (c := 1) (by decide)) ?_
        rw [show (tget (Va.1 0) (nI ((((rwa (Va.1 23) k) + (rwn (Va.1 23) k)) - 1) - 1)) 1) = (nI r) from ((congrArg (fun z => tget z (nI ((((rwa (Va.1 23) k) + (rwn (Va.1 23) k)) - 1) - 1)) 1) (show Va.1 0 = (U.1 0) from (zza.t 0 rfl))).trans (tget_nI (by first | omega | decide))).trans (by rw [hj0U, show (((rwa (Va.1 23) k) + (rwn (Va.1 23) k)) - 1) - 1 = (rwa (Va.1 23) k) + nn - 1 by omega]; exact her)]
        refine mw_go mu_g291 (k := 3) (f1 := (96, [(7, .inl (nI r)), (6, .inl (nI (rwi (Va.1 23) k))), (5, .inl (nI (((rwa (Va.1 23) k) + (rwn (Va.1 23) k)) - 1))), (4, .inl (nI (rwa (Va.1 23) k))), (3, .inl (1 : Int32)), (2, .inl (nI k)), (0, .inr (.inr (some 129))), (1, .inr (.inr (some m)))], [.inr (.inr (mu_r Hsa m 15))], Hsa)) (C := [mu_is Hsa (some m) 6]) rfl (show mu_is Hsa (some m) 6 from (show mu_is Hsa (some m) 6 from gi_im ua.1.1 ua.2)) ?_
        rw [(show mu_r Hsa m 15 = some (m + 31) from (gi_mr ua.1.1 ua.2 (j := 15) (by decide)).trans (congrArg some (by omega)))]
        refine mw_go mu_g291 (k := 3) (f1 := (101, [(7, .inl (nI r)), (6, .inl (nI (rwi (Va.1 23) k))), (5, .inl (nI (((rwa (Va.1 23) k) + (rwn (Va.1 23) k)) - 1))), (4, .inl (nI (rwa (Va.1 23) k))), (3, .inl (1 : Int32)), (2, .inl (nI k)), (0, .inr (.inr (some 129))), (1, .inr (.inr (some m)))], [.inl (nI (rwi (Va.1 23) k)), .inl (nI r), .inr (.inr (some m)), .inr (.inr (some (m + 31)))], Hsa)) (C := []) rfl trivial ?_
        refine mw_cI (fun _ => rfl) (show mu_is Hsa (some m) 6 from (show mu_is Hsa (some m) 6 from gi_im ua.1.1 ua.2)) (um_reach (d := (d + 6)) (W := Y) (r := r) (i := (rwi (Va.1 23) k)) ua (by have z : ak m Hsa = Va.1 := congrArg Prod.fst da; rw [z]; exact (hKN.1).2.2.1) hD.1 hPk.2.1 hEQ.2.2.1.1 hEQ.2.2.1.2) (fun x44 H44 q44 => ?_)
        obtain ⟨rfl, rfl, -⟩ := q44
        rw [hEQ.2.1]
        rcases hKN.1.2.2.2.2.2.2 w hEQ.2.2.2.1 with hpc | ⟨pl, hpl, hpc⟩
        · -- place: no
          have hpcU : (U.1 15).2 w 2 = (Va.1 15).2 w 2 := by rw [(show (Va.1 15) = (U.1 15) from (zza.t 15 rfl))]
          have hw15 := hEQ.2.2.2.1
          refine mw_go mu_g291 (k := 1) (f1 := (105, [(7, .inl (nI r)), (6, .inl (nI (rwi (Va.1 23) k))), (5, .inl (nI (((rwa (Va.1 23) k) + (rwn (Va.1 23) k)) - 1))), (4, .inl (nI (rwa (Va.1 23) k))), (3, .inl (1 : Int32)), (2, .inl (nI k)), (0, .inr (.inr (some 129))), (1, .inr (.inr (some m)))], [.inl (2 : Int32), .inl (nI w), .inr (.inr (some (m + 31)))], Hsa)) (C := []) rfl trivial ?_
          refine mw_cIe (fun _ => rfl) (show mu_is Hsa (some (m + 31)) 10 from ((ua.1.1.w (md_w15 ua.2)).1)) (ua.getr (d := (d + 7)) da (j := 15) (by decide) rfl (nI w) (c := 2) (by decide)) ?_
          rw [show (tget (Va.1 15) (nI w) 2) = (-1 : Int32) from ((congrArg (fun z => tget z (nI w) 2) (show Va.1 15 = (U.1 15) from (zza.t 15 rfl))).trans (tget_nI (by first | omega | decide))).trans (hpcU.trans hpc)]
          refine mw_go mu_g291 (k := 2) (f1 := (111, [(8, .inl (-1 : Int32)), (7, .inl (nI r)), (6, .inl (nI (rwi (Va.1 23) k))), (5, .inl (nI (((rwa (Va.1 23) k) + (rwn (Va.1 23) k)) - 1))), (4, .inl (nI (rwa (Va.1 23) k))), (3, .inl (1 : Int32)), (2, .inl (nI k)), (0, .inr (.inr (some 129))), (1, .inr (.inr (some m)))], [.inl (1 : Int32)], Hsa)) (C := []) rfl trivial ?_
          refine mw_if (P := (1 : Int32) < 0) (a := 114) (b := 121) (fun _ => rfl) trivial (fun h46 => absurd h46 (by decide)) (fun h46 => ?_)
          refine mw_go mu_g291 (k := 3) (f1 := (126, [(9, .inl (nI (rwa (Va.1 23) k))), (8, .inl (-1 : Int32)), (7, .inl (nI r)), (6, .inl (nI (rwi (Va.1 23) k))), (5, .inl (nI (((rwa (Va.1 23) k) + (rwn (Va.1 23) k)) - 1))), (4, .inl (nI (rwa (Va.1 23) k))), (3, .inl (1 : Int32)), (2, .inl (nI k)), (0, .inr (.inr (some 129))), (1, .inr (.inr (some m)))], [.inl (1 : Int32)], Hsa)) (C := []) rfl trivial ?_
          refine mw_if (P := (1 : Int32) < 0) (a := 129) (b := 134) (fun _ => rfl) trivial (fun h47 => absurd h47 (by decide)) (fun h47 => ?_)
          refine mw_go mu_g291 (k := 3) (f1 := (138, [(9, .inl (nI (rwa (Va.1 23) k))), (8, .inl (-1 : Int32)), (7, .inl (nI r)), (6, .inl (nI (rwi (Va.1 23) k))), (5, .inl (nI (((rwa (Va.1 23) k) + (rwn (Va.1 23) k)) - 1))), (4, .inl (nI (rwa (Va.1 23) k))), (3, .inl (1 : Int32)), (2, .inl (nI k)), (0, .inr (.inr (some 129))), (1, .inr (.inr (some m)))], [.inl ((nI (((rwa (Va.1 23) k) + (rwn (Va.1 23) k)) - 1)) - (1 : Int32))], Hsa)) (C := []) rfl trivial ?_
          rw [(show ((nI (((rwa (Va.1 23) k) + (rwn (Va.1 23) k)) - 1)) - (1 : Int32)) = (nI ((((rwa (Va.1 23) k) + (rwn (Va.1 23) k)) - 1) - 1)) from (nI_sub (a := ((rwa (Va.1 23) k) + (rwn (Va.1 23) k)) - 1) (b := 1) (by omega)))]
          refine mw_go mu_g291 (k := 3) (f1 := (144, [(10, .inl (nI ((((rwa (Va.1 23) k) + (rwn (Va.1 23) k)) - 1) - 1))), (9, .inl (nI (rwa (Va.1 23) k))), (8, .inl (-1 : Int32)), (7, .inl (nI r)), (6, .inl (nI (rwi (Va.1 23) k))), (5, .inl (nI (((rwa (Va.1 23) k) + (rwn (Va.1 23) k)) - 1))), (4, .inl (nI (rwa (Va.1 23) k))), (3, .inl (1 : Int32)), (2, .inl (nI k)), (0, .inr (.inr (some 129))), (1, .inr (.inr (some m)))], [.inr (.inr (mu_r Hsa 129 0))], Hsa)) (C := [mu_is Hsa (some 129) 9]) rfl (show mu_is Hsa (some 129) 9 from (ua.1.1.is rfl)) ?_
          rw [(ua.1.1.r (p := 129) (j := 0) (q := 99) rfl)]
          refine mw_go mu_g291 (k := 1) (f1 := (147, [(10, .inl (nI ((((rwa (Va.1 23) k) + (rwn (Va.1 23) k)) - 1) - 1))), (9, .inl (nI (rwa (Va.1 23) k))), (8, .inl (-1 : Int32)), (7, .inl (nI r)), (6, .inl (nI (rwi (Va.1 23) k))), (5, .inl (nI (((rwa (Va.1 23) k) + (rwn (Va.1 23) k)) - 1))), (4, .inl (nI (rwa (Va.1 23) k))), (3, .inl (1 : Int32)), (2, .inl (nI k)), (0, .inr (.inr (some 129))), (1, .inr (.inr (some m)))], [.inr (.inr (mu_r Hsa 99 1))], Hsa)) (C := [mu_is Hsa (some 99) 13]) rfl (show mu_is Hsa (some 99) 13 from (ua.1.1.is rfl)) ?_
          rw [(ua.1.1.r (p := 99) (j := 1) (q := 100) rfl)]
          refine mw_go mu_g291 (k := 3) (f1 := (153, [(10, .inl (nI ((((rwa (Va.1 23) k) + (rwn (Va.1 23) k)) - 1) - 1))), (9, .inl (nI (rwa (Va.1 23) k))), (8, .inl (-1 : Int32)), (7, .inl (nI r)), (6, .inl (nI (rwi (Va.1 23) k))), (5, .inl (nI (((rwa (Va.1 23) k) + (rwn (Va.1 23) k)) - 1))), (4, .inl (nI (rwa (Va.1 23) k))), (3, .inl (1 : Int32)), (2, .inl (nI k)), (0, .inr (.inr (some 129))), (1, .inr (.inr (some m)))], [.inl (nI (rwi (Va.1 23) k)), .inl (nI ((((rwa (Va.1 23) k) + (rwn (Va.1 23) k)) - 1) - 1)), .inl (nI (rwa (Va.1 23) k)), .inr (.inr (some 100))], Hsa)) (C := []) rfl trivial ?_
          refine mw_cV (fun _ => rfl) (show mu_is Hsa (some 100) 5 from (ua.1.1.is rfl)) (by have y := (rl_loadP (d := (d + 3)) (C := C) (a := (rwa (Va.1 23) k)) (n := (nn - 1)) (i := (rwi (Va.1 23) k)) ua da hKN hPk.2.1 hEQ.2.2.2.2.1 hC21 hC21b); rw [show (rwa (Va.1 23) k) + (nn - 1) = (((rwa (Va.1 23) k) + (rwn (Va.1 23) k)) - 1) - 1 by omega] at y; exact y) (fun Q48 q48 => ?_)
          obtain ⟨u48, r48, z48, hKL⟩ := q48
          have ht48 : ur m C H Q48 := hta.trans r48
          obtain ⟨V48, d48⟩ : ∃ V, ud m Q48 = V := ⟨_, rfl⟩
          rw [d48] at z48 hKL
          have qf48 : uq F291 U V48 := qfa.tr z48 rfl
          obtain ⟨mk, hmk⟩ : ∃ mk, V48.2.1 100 4 = mk := ⟨_, rfl⟩
          refine mw_go mu_g291 (k := 1) (f1 := (158, [(10, .inl (nI ((((rwa (Va.1 23) k) + (rwn (Va.1 23) k)) - 1) - 1))), (9, .inl (nI (rwa (Va.1 23) k))), (8, .inl (-1 : Int32)), (7, .inl (nI r)), (6, .inl (nI (rwi (Va.1 23) k))), (5, .inl (nI (((rwa (Va.1 23) k) + (rwn (Va.1 23) k)) - 1))), (4, .inl (nI (rwa (Va.1 23) k))), (3, .inl (1 : Int32)), (2, .inl (nI k)), (0, .inr (.inr (some 129))), (1, .inr (.inr (some m)))], [.inl (-1 : Int32)], Q48)) (C := []) rfl trivial ?_
          refine mw_if (P := (-1 : Int32) < 0) (a := 242) (b := 161) (fun _ => rfl) trivial (fun h49 => ?_) (fun h49 => absurd (by decide) h49)
          refine mw_go mu_g291 (k := 1) (f1 := (245, [(2, .inl ((nI k) + 1)), (10, .inl (nI ((((rwa (Va.1 23) k) + (rwn (Va.1 23) k)) - 1) - 1))), (9, .inl (nI (rwa (Va.1 23) k))), (8, .inl (-1 : Int32)), (7, .inl (nI r)), (6, .inl (nI (rwi (Va.1 23) k))), (5, .inl (nI (((rwa (Va.1 23) k) + (rwn (Va.1 23) k)) - 1))), (4, .inl (nI (rwa (Va.1 23) k))), (3, .inl (1 : Int32)), (0, .inr (.inr (some 129))), (1, .inr (.inr (some m)))], [], Q48)) (C := []) rfl trivial ?_
          rw [(show ((nI k) + 1) = (nI (k + 1)) from (nI_add k 1))]
          refine mw_go mu_g291 (k := 1) (f1 := (10, [(2, .inl (nI (k + 1))), (10, .inl (nI ((((rwa (Va.1 23) k) + (rwn (Va.1 23) k)) - 1) - 1))), (9, .inl (nI (rwa (Va.1 23) k))), (8, .inl (-1 : Int32)), (7, .inl (nI r)), (6, .inl (nI (rwi (Va.1 23) k))), (5, .inl (nI (((rwa (Va.1 23) k) + (rwn (Va.1 23) k)) - 1))), (4, .inl (nI (rwa (Va.1 23) k))), (3, .inl (1 : Int32)), (0, .inr (.inr (some 129))), (1, .inr (.inr (some m)))], [], Q48)) (C := []) rfl trivial ?_
          exact mw_sub (by simp) (iha (k + 1, Q48) ⟨u48, ht48, (show uq F291a U (ud m Q48) from by rw [d48]; exact (zza.tr z48 rfl)), (show (k + 1) ≤ ((ud m Q48).1 23).1 from by rw [d48]; exact (by rw [(show (V48.1 23) = (Va.1 23) from (z48.t 23 rfl))]; omega)), (show True ∧ ((ud m Q48).1 23).1 = (U.1 23).1 from by rw [d48]; exact (by rw [(show (V48.1 23) = (Va.1 23) from (z48.t 23 rfl))]; exact hszE)), (show RSK m (ud m Q48) Y P f od es from by rw [d48]; exact (RSKL.kk hKL (by omega) hPk.2.1)), (show ∀ r, r < ((ud m Q48).1 23).1 → PCT Y es ((ud m Q48).1 23) r from by rw [d48]; exact (by rw [(show (V48.1 23) = (Va.1 23) from (z48.t 23 rfl))]; exact hPCa)), (show ∃ G, RLG (ud m Q48) Y es P f od N0 O0 sf nb bo br ba bn bi (cnt + (k + 1)) G ∧ ∀ b s u, b < nb → s < pd f 0 P → u < pd f 0 P → ((G b s u ∧ (b + 1 = nb → PND Y U f P od ((ud m Q48).1 23) s u)) ↔ (G0 b s u ∧ (b + 1 = nb → PND Y U f P od (U.1 23) s u))) from by rw [d48]; exact (by obtain ⟨G, hG1, hG2⟩ := hRG; refine ⟨G, (hG1.q (F := F203) (show uq F203 Va V48 from ((uq.refl F203 Va).tr z48 rfl)) rfl rfl).mono (by omega) (fun _ _ _ _ _ _ => Iff.rfl), ?_⟩; rw [(show (V48.1 23) = (Va.1 23) from (z48.t 23 rfl))]; exact hG2))⟩ (by show (U.1 23).1 - (k + 1) < (U.1 23).1 - k; omega))
        · -- place: yes
          have hpcU : (U.1 15).2 w 2 = (Va.1 15).2 w 2 := by rw [(show (Va.1 15) = (U.1 15) from (zza.t 15 rfl))]
          have hw15 := hEQ.2.2.2.1
          have hP14 := hK.1.P14
          refine mw_go mu_g291 (k := 1) (f1 := (105, [(7, .inl (nI r)), (6, .inl (nI (rwi (Va.1 23) k))), (5, .inl (nI (((rwa (Va.1 23) k) + (rwn (Va.1 23) k)) - 1))), (4, .inl (nI (rwa (Va.1 23) k))), (3, .inl (1 : Int32)), (2, .inl (nI k)), (0, .inr (.inr (some 129))), (1, .inr (.inr (some m)))], [.inl (2 : Int32), .inl (nI w), .inr (.inr (some (m + 31)))], Hsa)) (C := []) rfl trivial ?_
          refine mw_cIe (fun _ => rfl) (show mu_is Hsa (some (m + 31)) 10 from ((ua.1.1.w (md_w15 ua.2)).1)) (ua.getr (d := (d + 7)) da (j := 15) (by decide) rfl (nI w) (c := 2) (by decide)) ?_
          rw [show (tget (Va.1 15) (nI w) 2) = (nI pl) from ((congrArg (fun z => tget z (nI w) 2) (show Va.1 15 = (U.1 15) from (zza.t 15 rfl))).trans (tget_nI (by first | omega | decide))).trans (hpcU.trans hpc)]
          refine mw_go mu_g291 (k := 2) (f1 := (111, [(8, .inl (nI pl)), (7, .inl (nI r)), (6, .inl (nI (rwi (Va.1 23) k))), (5, .inl (nI (((rwa (Va.1 23) k) + (rwn (Va.1 23) k)) - 1))), (4, .inl (nI (rwa (Va.1 23) k))), (3, .inl (1 : Int32)), (2, .inl (nI k)), (0, .inr (.inr (some 129))), (1, .inr (.inr (some m)))], [.inl (1 : Int32)], Hsa)) (C := []) rfl trivial ?_
          refine mw_if (P := (1 : Int32) < 0) (a := 114) (b := 121) (fun _ => rfl) trivial (fun h51 => absurd h51 (by decide)) (fun h51 => ?_)
          refine mw_go mu_g291 (k := 3) (f1 := (126, [(9, .inl (nI (rwa (Va.1 23) k))), (8, .inl (nI pl)), (7, .inl (nI r)), (6, .inl (nI (rwi (Va.1 23) k))), (5, .inl (nI (((rwa (Va.1 23) k) + (rwn (Va.1 23) k)) - 1))), (4, .inl (nI (rwa (Va.1 23) k))), (3, .inl (1 : Int32)), (2, .inl (nI k)), (0, .inr (.inr (some 129))), (1, .inr (.inr (some m)))], [.inl (1 : Int32)], Hsa)) (C := []) rfl trivial ?_
          refine mw_if (P := (1 : Int32) < 0) (a := 129) (b := 134) (fun _ => rfl) trivial (fun h52 => absurd h52 (by decide)) (fun h52 => ?_)
          refine mw_go mu_g291 (k := 3) (f1 := (138, [(9, .inl (nI (rwa (Va.1 23) k))), (8, .inl (nI pl)), (7, .inl (nI r)), (6, .inl (nI (rwi (Va.1 23) k))), (5, .inl (nI (((rwa (Va.1 23) k) + (rwn (Va.1 23) k)) - 1))), (4, .inl (nI (rwa (Va.1 23) k))), (3, .inl (1 : Int32)), (2, .inl (nI k)), (0, .inr (.inr (some 129))), (1, .inr (.inr (some m)))], [.inl ((nI (((rwa (Va.1 23) k) + (rwn (Va.1 23) k)) - 1)) - (1 : Int32))], Hsa)) (C := []) rfl trivial ?_
          rw [(show ((nI (((rwa (Va.1 23) k) + (rwn (Va.1 23) k)) - 1)) - (1 : Int32)) = (nI ((((rwa (Va.1 23) k) + (rwn (Va.1 23) k)) - 1) - 1)) from (nI_sub (a := ((rwa (Va.1 23) k) + (rwn (Va.1 23) k)) - 1) (b := 1) (by omega)))]
          refine mw_go mu_g291 (k := 3) (f1 := (144, [(10, .inl (nI ((((rwa (Va.1 23) k) + (rwn (Va.1 23) k)) - 1) - 1))), (9, .inl (nI (rwa (Va.1 23) k))), (8, .inl (nI pl)), (7, .inl (nI r)), (6, .inl (nI (rwi (Va.1 23) k))), (5, .inl (nI (((rwa (Va.1 23) k) + (rwn (Va.1 23) k)) - 1))), (4, .inl (nI (rwa (Va.1 23) k))), (3, .inl (1 : Int32)), (2, .inl (nI k)), (0, .inr (.inr (some 129))), (1, .inr (.inr (some m)))], [.inr (.inr (mu_r Hsa 129 0))], Hsa)) (C := [mu_is Hsa (some 129) 9]) rfl (show mu_is Hsa (some 129) 9 from (ua.1.1.is rfl)) ?_
          rw [(ua.1.1.r (p := 129) (j := 0) (q := 99) rfl)]
          refine mw_go mu_g291 (k := 1) (f1 := (147, [(10, .inl (nI ((((rwa (Va.1 23) k) + (rwn (Va.1 23) k)) - 1) - 1))), (9, .inl (nI (rwa (Va.1 23) k))), (8, .inl (nI pl)), (7, .inl (nI r)), (6, .inl (nI (rwi (Va.1 23) k))), (5, .inl (nI (((rwa (Va.1 23) k) + (rwn (Va.1 23) k)) - 1))), (4, .inl (nI (rwa (Va.1 23) k))), (3, .inl (1 : Int32)), (2, .inl (nI k)), (0, .inr (.inr (some 129))), (1, .inr (.inr (some m)))], [.inr (.inr (mu_r Hsa 99 1))], Hsa)) (C := [mu_is Hsa (some 99) 13]) rfl (show mu_is Hsa (some 99) 13 from (ua.1.1.is rfl)) ?_
          rw [(ua.1.1.r (p := 99) (j := 1) (q := 100) rfl)]
          refine mw_go mu_g291 (k := 3) (f1 := (153, [(10, .inl (nI ((((rwa (Va.1 23) k) + (rwn (Va.1 23) k)) - 1) - 1))), (9, .inl (nI (rwa (Va.1 23) k))), (8, .inl (nI pl)), (7, .inl (nI r)), (6, .inl (nI (rwi (Va.1 23) k))), (5, .inl (nI (((rwa (Va.1 23) k) + (rwn (Va.1 23) k)) - 1))), (4, .inl (nI (rwa (Va.1 23) k))), (3, .inl (1 : Int32)), (2, .inl (nI k)), (0, .inr (.inr (some 129))), (1, .inr (.inr (some m)))], [.inl (nI (rwi (Va.1 23) k)), .inl (nI ((((rwa (Va.1 23) k) + (rwn (Va.1 23) k)) - 1) - 1)), .inl (nI (rwa (Va.1 23) k)), .inr (.inr (some 100))], Hsa)) (C := []) rfl trivial ?_
          refine mw_cV (fun _ => rfl) (show mu_is Hsa (some 100) 5 from (ua.1.1.is rfl)) (by have y := (rl_loadP (d := (d + 3)) (C := C) (a := (rwa (Va.1 23) k)) (n := (nn - 1)) (i := (rwi (Va.1 23) k)) ua da hKN hPk.2.1 hEQ.2.2.2.2.1 hC21 hC21b); rw [show (rwa (Va.1 23) k) + (nn - 1) = (((rwa (Va.1 23) k) + (rwn (Va.1 23) k)) - 1) - 1 by omega] at y; exact y) (fun Q53 q53 => ?_)
          obtain ⟨u53, r53, z53, hKL⟩ := q53
          have ht53 : ur m C H Q53 := hta.trans r53
          obtain ⟨V53, d53⟩ : ∃ V, ud m Q53 = V := ⟨_, rfl⟩
          rw [d53] at z53 hKL
          have qf53 : uq F291 U V53 := qfa.tr z53 rfl
          obtain ⟨mk, hmk⟩ : ∃ mk, V53.2.1 100 4 = mk := ⟨_, rfl⟩
          refine mw_go mu_g291 (k := 1) (f1 := (158, [(10, .inl (nI ((((rwa (Va.1 23) k) + (rwn (Va.1 23) k)) - 1) - 1))), (9, .inl (nI (rwa (Va.1 23) k))), (8, .inl (nI pl)), (7, .inl (nI r)), (6, .inl (nI (rwi (Va.1 23) k))), (5, .inl (nI (((rwa (Va.1 23) k) + (rwn (Va.1 23) k)) - 1))), (4, .inl (nI (rwa (Va.1 23) k))), (3, .inl (1 : Int32)), (2, .inl (nI k)), (0, .inr (.inr (some 129))), (1, .inr (.inr (some m)))], [.inl (nI pl)], Q53)) (C := []) rfl trivial ?_
          refine mw_if (P := (nI pl) < 0) (a := 242) (b := 161) (fun _ => rfl) trivial (fun h54 => absurd h54 (nI_pos (by omega))) (fun h54 => ?_)
          refine mw_go mu_g291 (k := 2) (f1 := (165, [(10, .inl (nI ((((rwa (Va.1 23) k) + (rwn (Va.1 23) k)) - 1) - 1))), (9, .inl (nI (rwa (Va.1 23) k))), (8, .inl (nI pl)), (7, .inl (nI r)), (6, .inl (nI (rwi (Va.1 23) k))), (5, .inl (nI (((rwa (Va.1 23) k) + (rwn (Va.1 23) k)) - 1))), (4, .inl (nI (rwa (Va.1 23) k))), (3, .inl (1 : Int32)), (2, .inl (nI k)), (0, .inr (.inr (some 129))), (1, .inr (.inr (some m)))], [.inr (.inr (mu_r Q53 129 0))], Q53)) (C := [mu_is Q53 (some 129) 9]) rfl (show mu_is Q53 (some 129) 9 from (u53.1.1.is rfl)) ?_
          rw [(u53.1.1.r (p := 129) (j := 0) (q := 99) rfl)]
          refine mw_go mu_g291 (k := 1) (f1 := (168, [(10, .inl (nI ((((rwa (Va.1 23) k) + (rwn (Va.1 23) k)) - 1) - 1))), (9, .inl (nI (rwa (Va.1 23) k))), (8, .inl (nI pl)), (7, .inl (nI r)), (6, .inl (nI (rwi (Va.1 23) k))), (5, .inl (nI (((rwa (Va.1 23) k) + (rwn (Va.1 23) k)) - 1))), (4, .inl (nI (rwa (Va.1 23) k))), (3, .inl (1 : Int32)), (2, .inl (nI k)), (0, .inr (.inr (some 129))), (1, .inr (.inr (some m)))], [.inr (.inr (mu_r Q53 99 1))], Q53)) (C := [mu_is Q53 (some 99) 13]) rfl (show mu_is Q53 (some 99) 13 from (u53.1.1.is rfl)) ?_
          rw [(u53.1.1.r (p := 99) (j := 1) (q := 100) rfl)]
          refine mw_go mu_g291 (k := 1) (f1 := (171, [(10, .inl (nI ((((rwa (Va.1 23) k) + (rwn (Va.1 23) k)) - 1) - 1))), (9, .inl (nI (rwa (Va.1 23) k))), (8, .inl (nI pl)), (7, .inl (nI r)), (6, .inl (nI (rwi (Va.1 23) k))), (5, .inl (nI (((rwa (Va.1 23) k) + (rwn (Va.1 23) k)) - 1))), (4, .inl (nI (rwa (Va.1 23) k))), (3, .inl (1 : Int32)), (2, .inl (nI k)), (0, .inr (.inr (some 129))), (1, .inr (.inr (some m)))], [.inl (mu_i Q53 100 4)], Q53)) (C := [mu_is Q53 (some 100) 5]) rfl (show mu_is Q53 (some 100) 5 from (u53.1.1.is rfl)) ?_
          rw [(show mu_i Q53 100 4 = mk from (ud_i (U := V53) (m := m) (P := 100) (j := 4) d53 rfl).trans hmk)]
          refine mw_go mu_g291 (k := 2) (f1 := (174, [(10, .inl (nI ((((rwa (Va.1 23) k) + (rwn (Va.1 23) k)) - 1) - 1))), (9, .inl (nI (rwa (Va.1 23) k))), (8, .inl (nI pl)), (7, .inl (nI r)), (6, .inl (nI (rwi (Va.1 23) k))), (5, .inl (nI (((rwa (Va.1 23) k) + (rwn (Va.1 23) k)) - 1))), (4, .inl (nI (rwa (Va.1 23) k))), (3, .inl (1 : Int32)), (2, .inl (nI k)), (0, .inr (.inr (some 129))), (1, .inr (.inr (some m)))], [.inl ((mk.toUInt32 >>> ((14 : Int32).toUInt32 &&& Int32.toUInt32 31)).toInt32)], Q53)) (C := []) rfl trivial ?_
          refine mw_if (P := ((mk.toUInt32 >>> ((14 : Int32).toUInt32 &&& Int32.toUInt32 31)).toInt32) = 0) (a := 177) (b := 242) (fun _ => rfl) trivial (fun h55 => ?_) (fun h55 => ?_)
          · -- 177: ((mk.toUInt32 >>> ((14 : Int32).toUInt32 &&& Int32.toUInt32 31)).toInt32) = 0
            have hmz : ∀ k, 14 ≤ k → k < 28 → mb mk k = 0 := hi_zero (hKL.top hmk) h55
            refine mw_go mu_g291 (k := 2) (f1 := (181, [(10, .inl (nI ((((rwa (Va.1 23) k) + (rwn (Va.1 23) k)) - 1) - 1))), (9, .inl (nI (rwa (Va.1 23) k))), (8, .inl (nI pl)), (7, .inl (nI r)), (6, .inl (nI (rwi (Va.1 23) k))), (5, .inl (nI (((rwa (Va.1 23) k) + (rwn (Va.1 23) k)) - 1))), (4, .inl (nI (rwa (Va.1 23) k))), (3, .inl (1 : Int32)), (2, .inl (nI k)), (0, .inr (.inr (some 129))), (1, .inr (.inr (some m)))], [.inr (.inr (mu_r Q53 129 2))], Q53)) (C := [mu_is Q53 (some 129) 9]) rfl (show mu_is Q53 (some 129) 9 from (u53.1.1.is rfl)) ?_
            rw [(u53.1.1.r (p := 129) (j := 2) (q := 118) rfl)]
            refine mw_go mu_g291 (k := 3) (f1 := (185, [(10, .inl (nI ((((rwa (Va.1 23) k) + (rwn (Va.1 23) k)) - 1) - 1))), (9, .inl (nI (rwa (Va.1 23) k))), (8, .inl (nI pl)), (7, .inl (nI r)), (6, .inl (nI (rwi (Va.1 23) k))), (5, .inl (nI (((rwa (Va.1 23) k) + (rwn (Va.1 23) k)) - 1))), (4, .inl (nI (rwa (Va.1 23) k))), (3, .inl (1 : Int32)), (2, .inl (nI k)), (0, .inr (.inr (some 129))), (1, .inr (.inr (some m)))], [.inl (nI (rwa (Va.1 23) k)), .inl (1 : Int32), .inl (nI k), .inr (.inr (some 118))], Q53)) (C := []) rfl trivial ?_
            refine mw_cV (fun _ => rfl) (show mu_is Q53 (some 118) 10 from (u53.1.1.is rfl)) (u53.setr (C := C) (d := (d + 7)) d53 (j := 23) (Or.inr ⟨by decide, by decide⟩) rfl (nI k) (nI (rwa (Va.1 23) k)) (c := 1) (by decide)) (fun Q56 q56 => ?_)
            obtain ⟨u56, r56, d56⟩ := q56
            have ht56 : ur m C H Q56 := ht53.trans r56
            have qf56 : uq F291 U (upT V53 (ax 23 V53.1 (nI k) 1 (nI (rwa (Va.1 23) k)))) := qf53.ax rfl
            refine mw_go mu_g291 (k := 4) (f1 := (195, [(10, .inl (nI ((((rwa (Va.1 23) k) + (rwn (Va.1 23) k)) - 1) - 1))), (9, .inl (nI (rwa (Va.1 23) k))), (8, .inl (nI pl)), (7, .inl (nI r)), (6, .inl (nI (rwi (Va.1 23) k))), (5, .inl (nI (((rwa (Va.1 23) k) + (rwn (Va.1 23) k)) - 1))), (4, .inl (nI (rwa (Va.1 23) k))), (3, .inl (1 : Int32)), (2, .inl (nI k)), (0, .inr (.inr (some 129))), (1, .inr (.inr (some m)))], [.inr (.inr (mu_r Q56 m 0)), .inl (nI pl), .inr (.inr (some 129))], Q56)) (C := [mu_is Q56 (some m) 6]) rfl (show mu_is Q56 (some m) 6 from (show mu_is Q56 (some m) 6 from gi_im u56.1.1 u56.2)) ?_
            rw [(show mu_r Q56 m 0 = some (m + 1) from (gi_mr u56.1.1 u56.2 (j := 0) (by decide)).trans (congrArg some (by omega)))]
            refine mw_go mu_g291 (k := 2) (f1 := (198, [(10, .inl (nI ((((rwa (Va.1 23) k) + (rwn (Va.1 23) k)) - 1) - 1))), (9, .inl (nI (rwa (Va.1 23) k))), (8, .inl (nI pl)), (7, .inl (nI r)), (6, .inl (nI (rwi (Va.1 23) k))), (5, .inl (nI (((rwa (Va.1 23) k) + (rwn (Va.1 23) k)) - 1))), (4, .inl (nI (rwa (Va.1 23) k))), (3, .inl (1 : Int32)), (2, .inl (nI k)), (0, .inr (.inr (some 129))), (1, .inr (.inr (some m)))], [.inl (0 : Int32), .inl (nI (((rwa (Va.1 23) k) + (rwn (Va.1 23) k)) - 1)), .inr (.inr (some (m + 1))), .inl (nI pl), .inr (.inr (some 129))], Q56)) (C := []) rfl trivial ?_
            refine mw_cIe (fun _ => rfl) (show mu_is Q56 (some (m + 1)) 10 from ((u56.1.1.w (md_w0 u56.2)).1)) (u56.getr (d := (d + 7)) d56 (j := 0) (by decide) rfl (nI (((rwa (Va.1 23) k) + (rwn (Va.1 23) k)) - 1)) (c := 0) (by decide)) ?_
            rw [show (tget ((upT V53 (ax 23 V53.1 (nI k) 1 (nI (rwa (Va.1 23) k)))).1 0) (nI (((rwa (Va.1 23) k) + (rwn (Va.1 23) k)) - 1)) 0) = (nI (oc Y ((rwa (Va.1 23) k) + nn))) from ((congrArg (fun z => tget z (nI (((rwa (Va.1 23) k) + (rwn (Va.1 23) k)) - 1)) 0) (show (upT V53 (ax 23 V53.1 (nI k) 1 (nI (rwa (Va.1 23) k)))).1 0 = (U.1 0) from ((z53.t 0 rfl).trans (zza.t 0 rfl)))).trans (tget_nI (by first | omega | decide))).trans (by rw [hj0U, show ((rwa (Va.1 23) k) + (rwn (Va.1 23) k)) - 1 = (rwa (Va.1 23) k) + nn by omega]; exact oc_w hD.1 (by omega))]
            refine mw_go mu_g291 (k := 1) (f1 := (203, [(10, .inl (nI ((((rwa (Va.1 23) k) + (rwn (Va.1 23) k)) - 1) - 1))), (9, .inl (nI (rwa (Va.1 23) k))), (8, .inl (nI pl)), (7, .inl (nI r)), (6, .inl (nI (rwi (Va.1 23) k))), (5, .inl (nI (((rwa (Va.1 23) k) + (rwn (Va.1 23) k)) - 1))), (4, .inl (nI (rwa (Va.1 23) k))), (3, .inl (1 : Int32)), (2, .inl (nI k)), (0, .inr (.inr (some 129))), (1, .inr (.inr (some m)))], [.inl (30 : Int32), .inl (nI (oc Y ((rwa (Va.1 23) k) + nn))), .inl (nI pl), .inr (.inr (some 129))], Q56)) (C := []) rfl trivial ?_
            refine mw_if (P := (nI (oc Y ((rwa (Va.1 23) k) + nn))) = (30 : Int32)) (a := 206) (b := 219) (fun _ => rfl) trivial (fun h58 => absurd h58 (fun y => by have y2 := (nI_eq (by omega) (by omega)).mp (show nI (oc Y ((rwa (Va.1 23) k) + nn)) = nI 30 from y); omega)) (fun h58 => ?_)
            refine mw_go mu_g291 (k := 1) (f1 := (220, [(10, .inl (nI ((((rwa (Va.1 23) k) + (rwn (Va.1 23) k)) - 1) - 1))), (9, .inl (nI (rwa (Va.1 23) k))), (8, .inl (nI pl)), (7, .inl (nI r)), (6, .inl (nI (rwi (Va.1 23) k))), (5, .inl (nI (((rwa (Va.1 23) k) + (rwn (Va.1 23) k)) - 1))), (4, .inl (nI (rwa (Va.1 23) k))), (3, .inl (1 : Int32)), (2, .inl (nI k)), (0, .inr (.inr (some 129))), (1, .inr (.inr (some m)))], [.inl (1 : Int32), .inl (nI pl), .inr (.inr (some 129))], Q56)) (C := []) rfl trivial ?_
            obtain ⟨G, ⟨A, N, us, S, z, p, nf, nm, tm, bs, lv, oid, nw, wa, wn, wi, wk, ou, hRO⟩, hGm⟩ := hRG
            have hRO1 := hRO.q (F := F291x) (V := (upT V53 (ax 23 V53.1 (nI k) 1 (nI (rwa (Va.1 23) k))))) (((uq.refl F291x Va).tr z53 rfl).T (fun q hq => by first | exact ax_ne (in1_ne rfl hq) | exact ap_ne (in1_ne rfl hq) | exact fu_ne _ _ (in1_ne rfl hq))) rfl rfl
            have hcn1 := hRO1.2.1
            have hKL1 : RSKL m (upT V53 (ax 23 V53.1 (nI k) 1 (nI (rwa (Va.1 23) k)))) Y P f od es (rwa (Va.1 23) k) (nn - 1) (rwi (Va.1 23) k) := hKL.q (F := F129) ((uq.refl F129 V53).T (fun q hq => by first | exact ax_ne (in1_ne rfl hq) | exact ap_ne (in1_ne rfl hq) | exact fu_ne _ _ (in1_ne rfl hq))) rfl rfl
            have hmk1 : (upT V53 (ax 23 V53.1 (nI k) 1 (nI (rwa (Va.1 23) k)))).2.1 100 4 = mk := hmk
            refine mw_cI (fun _ => rfl) (show mu_is Q56 (some 129) 9 from (u56.1.1.is rfl)) (rl_roomP (d := (d + 4)) (C := C) (k := pl) (mo := 1) u56 d56 hKL1.1.1 hKL1.1.2.1 hpl hRO1.1 hmk1 (by omega)) (fun x59 Q59 q59 => ?_)
            rcases q59 with ⟨rfl, u59, r59, z59⟩ | ⟨rfl, u59, r59, z59, hrm, hco⟩
            · -- (0 : Int32)
              have ht59 : ur m C H Q59 := ht56.trans r59
              obtain ⟨V59, d59⟩ : ∃ V, ud m Q59 = V := ⟨_, rfl⟩
              rw [d59] at z59
              have qf59 : uq F291 U V59 := qf56.tr z59 rfl
              have hRO2 := hRO1.q z59 rfl rfl
              have hKL2 := hKL1.q z59 rfl rfl
              have hmk2 := (z59.i 100 4 rfl).trans hmk1
              have hnx2 : ¬ NXW Y (V59.1 15) P (rwa (Va.1 23) k) (nn - 1) (rwi (Va.1 23) k) := hKL2.nxw hmk2 hmz
              refine mw_if (P := (0 : Int32) = 0) (a := 235) (b := 226) (fun _ => rfl) trivial (fun h60 => ?_) (fun h60 => absurd (by decide) h60)
              refine mw_go mu_g291 (k := 3) (f1 := (239, [(10, .inl (nI ((((rwa (Va.1 23) k) + (rwn (Va.1 23) k)) - 1) - 1))), (9, .inl (nI (rwa (Va.1 23) k))), (8, .inl (nI pl)), (7, .inl (nI r)), (6, .inl (nI (rwi (Va.1 23) k))), (5, .inl (nI (((rwa (Va.1 23) k) + (rwn (Va.1 23) k)) - 1))), (4, .inl (nI (rwa (Va.1 23) k))), (3, .inl (1 : Int32)), (2, .inl (nI k)), (0, .inr (.inr (some 129))), (1, .inr (.inr (some m)))], [.inl (0 : Int32), .inl (nI pl), .inr (.inr (some 129))], Q59)) (C := []) rfl trivial ?_
              have hXX : ∀ s t, (CHSw Y V59 f P od false (rwa (Va.1 23) k) (nn - 1) (rwi (Va.1 23) k) s ((V59.2.2.1 99 8).2 (sm f 0 pl + dgzU f P t pl)) ↔ trs Y U f P od (rwi (Va.1 23) k) (rwa (Va.1 23) k) (nn + 1) s t = 1) := fun s t => by
                rw [hEQ.2.2.2.2.2.2.2 V59 m P f od mk pl hKL2.1 hKL2.2.2.1 hmk2 hnx2 (by rw [(show (V59.1 15) = (Va.1 15) from ((z59.t 15 rfl).trans (z53.t 15 rfl)))]; exact hpc) (by have y := hK.1.P14; omega) s t, trs_same (U := U) (show (V59.1 15) = (U.1 15) from ((z59.t 15 rfl).trans ((z53.t 15 rfl).trans (zza.t 15 rfl)))) (show (V59.2.2.1 99 8) = (U.2.2.1 99 8) from ((z59.a 99 8 rfl).trans ((z53.a 99 8 rfl).trans (zza.a 99 8 rfl))))]
              refine mw_cV (fun _ => rfl) (show mu_is Q59 (some 129) 9 from (u59.1.1.is rfl)) (rl_asideC (d := (d + 4)) (C := C) (a := (rwa (Va.1 23) k)) (n := (nn - 1)) (i := (rwi (Va.1 23) k)) (k := pl) (bb := false) u59 d59 hKL2 hPk.2.1 hEQ.2.2.2.2.1 (by rw [hEQ.2.2.2.2.2.1.2]; exact hEQ.2.2.2.2.2.1.1) ⟨fun y => absurd y (by decide), fun _ => hEQ.2.2.2.2.2.2.1.1⟩ hEQ.2.2.2.2.2.2.1.2 (by decide) hnx2 hpl hRO2.1 (by omega) (by omega) hC25b) (fun Q61 q61 => ?_)
              obtain ⟨u61, r61, z61, hKL3, hres⟩ := q61
              have ht61 : ur m C H Q61 := ht59.trans r61
              obtain ⟨V61, d61⟩ : ∃ V, ud m Q61 = V := ⟨_, rfl⟩
              rw [d61] at z61 hKL3 hres
              have qf61 : uq F291 U V61 := qf59.tr z61 rfl
              have hRGn := hRO2.step (z61.l 145 rfl) hres
              obtain ⟨hP1, hP2, hP4⟩ := pnd_take (U := U) (f := f) (P := P) (od := od) (t := Va.1 23) (k := k) hPCa (by omega) (by omega) (by omega) hY11 (by omega)
              have hT1 : V61.1 23 = tset 5 (Va.1 23) (nI k) 1 (nI (rwa (Va.1 23) k)) := by
                have y1 : V61.1 23 = (upT V53 (ax 23 V53.1 (nI k) 1 (nI (rwa (Va.1 23) k)))).1 23 := (z61.t 23 rfl).trans (z59.t 23 rfl)
                rw [y1, ← (show V53.1 23 = Va.1 23 from (z53.t 23 rfl))]
                rfl
              refine mw_go mu_g291 (k := 1) (f1 := (245, [(2, .inl ((nI k) + 1)), (10, .inl (nI ((((rwa (Va.1 23) k) + (rwn (Va.1 23) k)) - 1) - 1))), (9, .inl (nI (rwa (Va.1 23) k))), (8, .inl (nI pl)), (7, .inl (nI r)), (6, .inl (nI (rwi (Va.1 23) k))), (5, .inl (nI (((rwa (Va.1 23) k) + (rwn (Va.1 23) k)) - 1))), (4, .inl (nI (rwa (Va.1 23) k))), (3, .inl (1 : Int32)), (0, .inr (.inr (some 129))), (1, .inr (.inr (some m)))], [], Q61)) (C := []) rfl trivial ?_
              rw [(show ((nI k) + 1) = (nI (k + 1)) from (nI_add k 1))]
              refine mw_go mu_g291 (k := 1) (f1 := (10, [(2, .inl (nI (k + 1))), (10, .inl (nI ((((rwa (Va.1 23) k) + (rwn (Va.1 23) k)) - 1) - 1))), (9, .inl (nI (rwa (Va.1 23) k))), (8, .inl (nI pl)), (7, .inl (nI r)), (6, .inl (nI (rwi (Va.1 23) k))), (5, .inl (nI (((rwa (Va.1 23) k) + (rwn (Va.1 23) k)) - 1))), (4, .inl (nI (rwa (Va.1 23) k))), (3, .inl (1 : Int32)), (0, .inr (.inr (some 129))), (1, .inr (.inr (some m)))], [], Q61)) (C := []) rfl trivial ?_
              exact mw_sub (by simp) (iha (k + 1, Q61) ⟨u61, ht61, (show uq F291a U (ud m Q61) from by rw [d61]; exact ((((zza.tr z53 rfl).T (fun q hq => by first | exact ax_ne (in1_ne rfl hq) | exact ap_ne (in1_ne rfl hq) | exact fu_ne _ _ (in1_ne rfl hq))).tr z59 rfl).tr z61 rfl)), (show (k + 1) ≤ ((ud m Q61).1 23).1 from by rw [d61]; exact (by rw [hT1, hP2]; omega)), (show True ∧ ((ud m Q61).1 23).1 = (U.1 23).1 from by rw [d61]; exact (by rw [hT1, hP2]; exact hszE)), (show RSK m (ud m Q61) Y P f od es from by rw [d61]; exact (RSKL.kk hKL3 (by omega) hPk.2.1)), (show ∀ r, r < ((ud m Q61).1 23).1 → PCT Y es ((ud m Q61).1 23) r from by rw [d61]; exact (by rw [hT1]; exact hP1)), (show ∃ G, RLG (ud m Q61) Y es P f od N0 O0 sf nb bo br ba bn bi (cnt + (k + 1)) G ∧ ∀ b s u, b < nb → s < pd f 0 P → u < pd f 0 P → ((G b s u ∧ (b + 1 = nb → PND Y U f P od ((ud m Q61).1 23) s u)) ↔ (G0 b s u ∧ (b + 1 = nb → PND Y U f P od (U.1 23) s u))) from by rw [d61]; exact ⟨_, hRGn, fun b s u hb hs hu => eqm_step (hGm b s u hb hs hu) (by rw [hT1, hP4 s u, hnn, hXX s u])⟩)⟩ (by show (U.1 23).1 - (k + 1) < (U.1 23).1 - k; omega))
            · -- (1 : Int32)
              have ht59 : ur m C H Q59 := ht56.trans r59
              obtain ⟨V59, d59⟩ : ∃ V, ud m Q59 = V := ⟨_, rfl⟩
              rw [d59] at z59
              have qf59 : uq F291 U V59 := qf56.tr z59 rfl
              have hRO2 := hRO1.q z59 rfl rfl
              have hKL2 := hKL1.q z59 rfl rfl
              have hmk2 := (z59.i 100 4 rfl).trans hmk1
              have hnx2 : ¬ NXW Y (V59.1 15) P (rwa (Va.1 23) k) (nn - 1) (rwi (Va.1 23) k) := hKL2.nxw hmk2 hmz
              refine mw_if (P := (1 : Int32) = 0) (a := 235) (b := 226) (fun _ => rfl) trivial (fun h62 => absurd h62 (by decide)) (fun h62 => ?_)
              refine mw_go mu_g291 (k := 2) (f1 := (229, [(10, .inl (nI ((((rwa (Va.1 23) k) + (rwn (Va.1 23) k)) - 1) - 1))), (9, .inl (nI (rwa (Va.1 23) k))), (8, .inl (nI pl)), (7, .inl (nI r)), (6, .inl (nI (rwi (Va.1 23) k))), (5, .inl (nI (((rwa (Va.1 23) k) + (rwn (Va.1 23) k)) - 1))), (4, .inl (nI (rwa (Va.1 23) k))), (3, .inl (1 : Int32)), (2, .inl (nI k)), (0, .inr (.inr (some 129))), (1, .inr (.inr (some m)))], [.inl (nI pl), .inr (.inr (some 129))], Q59)) (C := []) rfl trivial ?_
              have hXX : ∀ s t, (CHSw Y V59 f P od false (rwa (Va.1 23) k) (nn - 1) (rwi (Va.1 23) k) s ((V59.2.2.1 99 8).2 (sm f 0 pl + dgzU f P t pl)) ↔ trs Y U f P od (rwi (Va.1 23) k) (rwa (Va.1 23) k) (nn + 1) s t = 1) := fun s t => by
                rw [hEQ.2.2.2.2.2.2.2 V59 m P f od mk pl hKL2.1 hKL2.2.2.1 hmk2 hnx2 (by rw [(show (V59.1 15) = (Va.1 15) from ((z59.t 15 rfl).trans (z53.t 15 rfl)))]; exact hpc) (by have y := hK.1.P14; omega) s t, trs_same (U := U) (show (V59.1 15) = (U.1 15) from ((z59.t 15 rfl).trans ((z53.t 15 rfl).trans (zza.t 15 rfl)))) (show (V59.2.2.1 99 8) = (U.2.2.1 99 8) from ((z59.a 99 8 rfl).trans ((z53.a 99 8 rfl).trans (zza.a 99 8 rfl))))]
              have hCK : CHK Y false (rwa (Va.1 23) k) (nn - 1) (1) := ⟨fun y => absurd y (by decide), fun _ => by
                have y := kst_tp hEQ.2.2.2.2.1.2.2.1
                rw [Nat.add_sub_cancel_left, hEQ.2.2.2.2.2.1.2] at y
                omega⟩
              refine mw_cV (fun _ => rfl) (show mu_is Q59 (some 129) 9 from (u59.1.1.is rfl)) (rl_tabP (d := d) (C := C) (a := (rwa (Va.1 23) k)) (n := (nn - 1)) (i := (rwi (Va.1 23) k)) (k := pl) (mo := 1) (bb := false) u59 d59 hKL2 hPk.2.1 hEQ.2.2.2.2.1 (by rw [hEQ.2.2.2.2.2.1.2]; exact hEQ.2.2.2.2.2.1.1) ⟨fun y => absurd y (by decide), fun _ => hEQ.2.2.2.2.2.2.1.1⟩ hEQ.2.2.2.2.2.2.1.2 (by decide) hnx2 hpl hmk2 hCK (Nat.le_refl _) hRO2.1 (by omega) hN00 hsf hrm hco (by omega) hC24b) (fun Q63 q63 => ?_)
              obtain ⟨u63, r63, z63, hKL3, hres⟩ := q63
              have ht63 : ur m C H Q63 := ht59.trans r63
              obtain ⟨V63, d63⟩ : ∃ V, ud m Q63 = V := ⟨_, rfl⟩
              rw [d63] at z63 hKL3 hres
              have qf63 : uq F291 U V63 := qf59.tr z63 rfl
              have hRGn := hRO2.step (z63.l 145 rfl) hres
              refine mw_go mu_g291 (k := 1) (f1 := (242, [(10, .inl (nI ((((rwa (Va.1 23) k) + (rwn (Va.1 23) k)) - 1) - 1))), (9, .inl (nI (rwa (Va.1 23) k))), (8, .inl (nI pl)), (7, .inl (nI r)), (6, .inl (nI (rwi (Va.1 23) k))), (5, .inl (nI (((rwa (Va.1 23) k) + (rwn (Va.1 23) k)) - 1))), (4, .inl (nI (rwa (Va.1 23) k))), (3, .inl (1 : Int32)), (2, .inl (nI k)), (0, .inr (.inr (some 129))), (1, .inr (.inr (some m)))], [], Q63)) (C := []) rfl trivial ?_
              obtain ⟨hP1, hP2, hP4⟩ := pnd_take (U := U) (f := f) (P := P) (od := od) (t := Va.1 23) (k := k) hPCa (by omega) (by omega) (by omega) hY11 (by omega)
              have hT1 : V63.1 23 = tset 5 (Va.1 23) (nI k) 1 (nI (rwa (Va.1 23) k)) := by
                have y1 : V63.1 23 = (upT V53 (ax 23 V53.1 (nI k) 1 (nI (rwa (Va.1 23) k)))).1 23 := (z63.t 23 rfl).trans (z59.t 23 rfl)
                rw [y1, ← (show V53.1 23 = Va.1 23 from (z53.t 23 rfl))]
                rfl
              refine mw_go mu_g291 (k := 1) (f1 := (245, [(2, .inl ((nI k) + 1)), (10, .inl (nI ((((rwa (Va.1 23) k) + (rwn (Va.1 23) k)) - 1) - 1))), (9, .inl (nI (rwa (Va.1 23) k))), (8, .inl (nI pl)), (7, .inl (nI r)), (6, .inl (nI (rwi (Va.1 23) k))), (5, .inl (nI (((rwa (Va.1 23) k) + (rwn (Va.1 23) k)) - 1))), (4, .inl (nI (rwa (Va.1 23) k))), (3, .inl (1 : Int32)), (0, .inr (.inr (some 129))), (1, .inr (.inr (some m)))], [], Q63)) (C := []) rfl trivial ?_
              rw [(show ((nI k) + 1) = (nI (k + 1)) from (nI_add k 1))]
              refine mw_go mu_g291 (k := 1) (f1 := (10, [(2, .inl (nI (k + 1))), (10, .inl (nI ((((rwa (Va.1 23) k) + (rwn (Va.1 23) k)) - 1) - 1))), (9, .inl (nI (rwa (Va.1 23) k))), (8, .inl (nI pl)), (7, .inl (nI r)), (6, .inl (nI (rwi (Va.1 23) k))), (5, .inl (nI (((rwa (Va.1 23) k) + (rwn (Va.1 23) k)) - 1))), (4, .inl (nI (rwa (Va.1 23) k))), (3, .inl (1 : Int32)), (0, .inr (.inr (some 129))), (1, .inr (.inr (some m)))], [], Q63)) (C := []) rfl trivial ?_
              exact mw_sub (by simp) (iha (k + 1, Q63) ⟨u63, ht63, (show uq F291a U (ud m Q63) from by rw [d63]; exact ((((zza.tr z53 rfl).T (fun q hq => by first | exact ax_ne (in1_ne rfl hq) | exact ap_ne (in1_ne rfl hq) | exact fu_ne _ _ (in1_ne rfl hq))).tr z59 rfl).tr z63 rfl)), (show (k + 1) ≤ ((ud m Q63).1 23).1 from by rw [d63]; exact (by rw [hT1, hP2]; omega)), (show True ∧ ((ud m Q63).1 23).1 = (U.1 23).1 from by rw [d63]; exact (by rw [hT1, hP2]; exact hszE)), (show RSK m (ud m Q63) Y P f od es from by rw [d63]; exact (RSKL.kk hKL3 (by omega) hPk.2.1)), (show ∀ r, r < ((ud m Q63).1 23).1 → PCT Y es ((ud m Q63).1 23) r from by rw [d63]; exact (by rw [hT1]; exact hP1)), (show ∃ G, RLG (ud m Q63) Y es P f od N0 O0 sf nb bo br ba bn bi (cnt + (k + 1)) G ∧ ∀ b s u, b < nb → s < pd f 0 P → u < pd f 0 P → ((G b s u ∧ (b + 1 = nb → PND Y U f P od ((ud m Q63).1 23) s u)) ↔ (G0 b s u ∧ (b + 1 = nb → PND Y U f P od (U.1 23) s u))) from by rw [d63]; exact ⟨_, hRGn, fun b s u hb hs hu => eqm_step (hGm b s u hb hs hu) (by rw [hT1, hP4 s u, hnn, hXX s u])⟩)⟩ (by show (U.1 23).1 - (k + 1) < (U.1 23).1 - k; omega))
          · -- 242: not ((mk.toUInt32 >>> ((14 : Int32).toUInt32 &&& Int32.toUInt32 31)).toInt32) = 0
            refine mw_go mu_g291 (k := 1) (f1 := (245, [(2, .inl ((nI k) + 1)), (10, .inl (nI ((((rwa (Va.1 23) k) + (rwn (Va.1 23) k)) - 1) - 1))), (9, .inl (nI (rwa (Va.1 23) k))), (8, .inl (nI pl)), (7, .inl (nI r)), (6, .inl (nI (rwi (Va.1 23) k))), (5, .inl (nI (((rwa (Va.1 23) k) + (rwn (Va.1 23) k)) - 1))), (4, .inl (nI (rwa (Va.1 23) k))), (3, .inl (1 : Int32)), (0, .inr (.inr (some 129))), (1, .inr (.inr (some m)))], [], Q53)) (C := []) rfl trivial ?_
            rw [(show ((nI k) + 1) = (nI (k + 1)) from (nI_add k 1))]
            refine mw_go mu_g291 (k := 1) (f1 := (10, [(2, .inl (nI (k + 1))), (10, .inl (nI ((((rwa (Va.1 23) k) + (rwn (Va.1 23) k)) - 1) - 1))), (9, .inl (nI (rwa (Va.1 23) k))), (8, .inl (nI pl)), (7, .inl (nI r)), (6, .inl (nI (rwi (Va.1 23) k))), (5, .inl (nI (((rwa (Va.1 23) k) + (rwn (Va.1 23) k)) - 1))), (4, .inl (nI (rwa (Va.1 23) k))), (3, .inl (1 : Int32)), (0, .inr (.inr (some 129))), (1, .inr (.inr (some m)))], [], Q53)) (C := []) rfl trivial ?_
            exact mw_sub (by simp) (iha (k + 1, Q53) ⟨u53, ht53, (show uq F291a U (ud m Q53) from by rw [d53]; exact (zza.tr z53 rfl)), (show (k + 1) ≤ ((ud m Q53).1 23).1 from by rw [d53]; exact (by rw [(show (V53.1 23) = (Va.1 23) from (z53.t 23 rfl))]; omega)), (show True ∧ ((ud m Q53).1 23).1 = (U.1 23).1 from by rw [d53]; exact (by rw [(show (V53.1 23) = (Va.1 23) from (z53.t 23 rfl))]; exact hszE)), (show RSK m (ud m Q53) Y P f od es from by rw [d53]; exact (RSKL.kk hKL (by omega) hPk.2.1)), (show ∀ r, r < ((ud m Q53).1 23).1 → PCT Y es ((ud m Q53).1 23) r from by rw [d53]; exact (by rw [(show (V53.1 23) = (Va.1 23) from (z53.t 23 rfl))]; exact hPCa)), (show ∃ G, RLG (ud m Q53) Y es P f od N0 O0 sf nb bo br ba bn bi (cnt + (k + 1)) G ∧ ∀ b s u, b < nb → s < pd f 0 P → u < pd f 0 P → ((G b s u ∧ (b + 1 = nb → PND Y U f P od ((ud m Q53).1 23) s u)) ↔ (G0 b s u ∧ (b + 1 = nb → PND Y U f P od (U.1 23) s u))) from by rw [d53]; exact (by obtain ⟨G, hG1, hG2⟩ := hRG; refine ⟨G, (hG1.q (F := F203) (show uq F203 Va V53 from ((uq.refl F203 Va).tr z53 rfl)) rfl rfl).mono (by omega) (fun _ _ _ _ _ _ => Iff.rfl), ?_⟩; rw [(show (V53.1 23) = (Va.1 23) from (z53.t 23 rfl))]; exact hG2))⟩ (by show (U.1 23).1 - (k + 1) < (U.1 23).1 - k; omega))
  · -- 248: not (nI k) < (nI (Va.1 23).1)
    have nh1 : ¬ k < ((Va.1 23).1) := fun z => h1 (show nI k < nI ((Va.1 23).1) from (nI_ltI (by omega) (by omega)).mpr z)
    refine mw_of (fun _ => mu_ret rfl trivial ⟨Hsa, rfl, ua, hta, (by rw [da]; exact qfa), ?_⟩)
    rw [da]
    obtain ⟨G, hG1, hG2⟩ := hRG
    exact ⟨hKN, hszE.2, hPCa, G, hG1.mono (by omega) (fun _ _ _ _ _ _ => Iff.rfl), hG2⟩
end TakeEquals
