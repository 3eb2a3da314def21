/-! Space.know, over LDW -/
section ReadyW
variable {H : mu_H} {U V : Ud} {m d P a0 N0 i0 s v0 : Nat} {C : Nat → Nat} {Y : Ts} {f od : Nat → Nat} {es rs : Nat → Int32} {al : Int32} {kd : Bool} {F : Uf}
theorem SRT_nxw (h : SRT Y es i0 al a0 rs N0) (hal : ¬ al = 1) {t : Tb} : ¬ NXW Y t P a0 N0 i0 := fun ⟨x, hx, ho, _⟩ => SRT_nx h hal ⟨x, hx, ho⟩
theorem LDW.ldd (h : LDW U Y P f od a0 N0 i0) : LDD U Y P f od a0 N0 i0 := by
  obtain ⟨S0, K, dp, W, mk, M, rk, l1, l2, l3, l4⟩ := h
  exact ⟨S0, K, dp, W, mk, M, rk, l1, l2, ⟨l3.1, l3.2.1, fun k hk hb => ⟨(l3.2.2 k hk hb).1, (l3.2.2 k hk hb).2.1, fun h14 => by obtain ⟨x, hx, ho, -⟩ := (l3.2.2 k hk hb).2.2 h14; exact ⟨x, hx, ho⟩⟩⟩, l4⟩
theorem LDW.keep (h : LDW U Y P f od a0 N0 i0) (h21 : V.1 21 = U.1 21) (h22 : V.1 22 = U.1 22) (h15 : V.1 15 = U.1 15) (a3 : V.2.2.1 100 3 = U.2.2.1 100 3) (i5 : V.2.1 100 5 = U.2.1 100 5) (i7 : V.2.1 100 7 = U.2.1 100 7) (i17 : V.2.1 100 17 = U.2.1 100 17) (i4 : V.2.1 100 4 = U.2.1 100 4) (a8 : V.2.2.1 100 8 = U.2.2.1 100 8) (n12 : (V.2.2.1 100 12).1 = (U.2.2.1 100 12).1) (n13 : (V.2.2.1 100 13).1 = (U.2.2.1 100 13).1) (n15 : (V.2.2.1 100 15).1 = (U.2.2.1 100 15).1) (a98 : V.2.2.1 99 8 = U.2.2.1 99 8) : LDW V Y P f od a0 N0 i0 := by
  obtain ⟨S0, K, dp, W, mk, M, rk, h1, h2, h3, h4⟩ := h
  refine ⟨S0, K, dp, W, mk, M, rk, LR_keep h1 h21 a3, LZx_keep h2 i5 i7 i17 i4 (by rw [a8]) n12 n13 n15, by rw [h15]; exact h3, ?_⟩
  unfold sdx at h4 ⊢
  rw [h22, a8, a98]
  exact h4
theorem ev_keep2 {S0 K dp W : Nat} {mk : Int32} {M : Nat → Prop} {rk wt : Nat → Nat} (hK : KNV m U Y P f od es) (hM : MCS U) (l1 : LR U Y a0 N0 i0 od S0 K M rk) (l2 : LZx U S0 K (sfz Y a0 N0) dp W mk) (l3 : LC (U.1 15) Y P (NXW Y (U.1 15) P a0 N0 i0) a0 N0 i0 (sfz Y a0 N0) dp mk M) (q : uq F257 U V) (hs : sds V W P S0 f mk (bcn mk) wt) : KNV m V Y P f od es ∧ MCS V ∧ LDW V Y P f od a0 N0 i0 := by
  refine ⟨hK.q q rfl, ⟨hs.1, by rw [q.n 100 3 rfl]; exact hM.2.1, by rw [q.n 100 8 rfl]; exact hM.2.2.1, by rw [q.n 100 12 rfl]; exact hM.2.2.2.1, by rw [q.n 100 13 rfl]; exact hM.2.2.2.2.1, by rw [q.n 100 15 rfl]; exact hM.2.2.2.2.2⟩, S0, K, dp, W, mk, M, rk, LR_keep l1 (q.t 21 rfl) (q.a 100 3 rfl), LZx_keep l2 (q.i 100 5 rfl) (q.i 100 7 rfl) (q.i 100 17 rfl) (q.i 100 4 rfl) (q.n 100 8 rfl) (q.n 100 12 rfl) (q.n 100 13 rfl) (q.n 100 15 rfl), ?_, sds_x hs hK.2.1⟩
  rw [q.t 15 rfl]
  exact l3
theorem sp_taskE2 (h : um m H) (e : ud m H = U) (hK : KNV m U Y P f od es) (hM : MCS U) (hl : LDW U Y P f od a0 N0 i0) (hi0 : i0 < (Y 11).1) (hr0 : rg Y (im Y i0) kd a0 (a0 + N0)) (hs0 : SRT Y es i0 al a0 rs N0) (hal : al = 0) : mu_TV (mu_D (d + 7)) 257 [.inr (.inr (some 99)), .inl (-1), .inr (.inr (some 126))] H (fun H1 => um m H1 ∧ ur m C H H1 ∧ uq F257 U (ud m H1) ∧ KNV m (ud m H1) Y P f od es ∧ MCS (ud m H1) ∧ LDW (ud m H1) Y P f od a0 N0 i0 ∧ (∀ s, s < pd f 0 P → (bts ((ud m H1).2.2.2.2.1 126) s = true ↔ ¬ tru Y U f P od i0 a0 N0 s = 0)) ∧ ∀ s, pd f 0 P ≤ s → s / 64 < (pd f 0 P + 63) / 64 → bts ((ud m H1).2.2.2.2.1 126) s = false) := by
  obtain ⟨S0, K, dp, W, mk, M, rk, l1, l2, l3, l4⟩ := hl
  have hnx : ¬ NXW Y (U.1 15) P a0 N0 i0 := SRT_nxw hs0 (by rw [hal]; decide)
  have hP := hK.P14
  refine (sp_evalE (C := C) h e hK.1 hK.2.1 hK.2.2.1 hK.2.2.2.1.1 hK.2.2.2.2.1 hK.2.2.2.1.2.1 hK.2.2.2.1.2.2.1 l1 l2 l3 hnx hi0 hr0 hs0 (by rw [hal]; decide) (fun c => ⟨VLS_vlz hK.2.2.2.2.2.1 hP hK.2.1, VLS_vlz hK.2.2.2.2.2.1 hP hK.2.1⟩) l4).imp (fun H1 q => ?_)
  obtain ⟨q1, q2, q3, q4, q5, q6⟩ := q
  obtain ⟨k1, k2, k3⟩ := ev_keep2 hK hM l1 l2 l3 q3 q6
  refine ⟨q1, q2, q3, k1, k2, k3, fun s hs => ?_, fun s hs hw => ?_⟩
  · unfold bts
    rw [q4 s hs, decide_eq_true_iff, trz_state hK.2.2.2.1.1 hK.2.2.2.2.1 hK.2.2.2.1.2.1 hP l3 hnx hi0 hr0 (fun k _ => hK.2.1 k) hK.2.2.2.2.2.2 hs]
  · unfold bts
    exact q5 (s / 64) (s % 64) hw (Nat.mod_lt _ (by decide)) (by omega)
theorem sp_taskC2 (h : um m H) (e : ud m H = U) (hK : KNV m U Y P f od es) (hM : MCS U) (hl : LDW U Y P f od a0 N0 i0) (hi0 : i0 < (Y 11).1) (hr0 : rg Y (im Y i0) true a0 (a0 + N0)) (hs0 : SRT Y es i0 al a0 rs N0) (hal : al = 0) (hv0 : v0 < (Y 15).1) : mu_TV (mu_D (d + 7)) 257 [.inr (.inr (some 99)), .inl (nI v0), .inr (.inr (some 126))] H (fun H1 => um m H1 ∧ ur m C H H1 ∧ uq F257 U (ud m H1) ∧ KNV m (ud m H1) Y P f od es ∧ MCS (ud m H1) ∧ LDW (ud m H1) Y P f od a0 N0 i0 ∧ (∀ s, s < pd f 0 P → (bts ((ud m H1).2.2.2.2.1 126) s = true ↔ cho Y U f P od i0 a0 N0 v0 s)) ∧ ∀ s, pd f 0 P ≤ s → s / 64 < (pd f 0 P + 63) / 64 → bts ((ud m H1).2.2.2.2.1 126) s = false) := by
  obtain ⟨S0, K, dp, W, mk, M, rk, l1, l2, l3, l4⟩ := hl
  have hnx : ¬ NXW Y (U.1 15) P a0 N0 i0 := SRT_nxw hs0 (by rw [hal]; decide)
  have hP := hK.P14
  have hVT : ∀ mv c, VLS Y (vlz U f mv 0 c) ∧ VLS Y (vlz U f mv 14 c) := fun mv c => ⟨VLS_vlz hK.2.2.2.2.2.1 hP hK.2.1, VLS_vlz hK.2.2.2.2.2.1 hP hK.2.1⟩
  have hbk : ∀ k, k < 28 → ¬ mb mk k = 0 → k < P := fun k hk hm => by
    obtain ⟨y1, y2, y3⟩ := l3.2.2 k (by omega) hm
    by_cases z : 14 ≤ k
    · exact absurd (y3 z) hnx
    · rw [Nat.mod_eq_of_lt (by omega)] at y2
      exact y2
  rcases hK.2.2.2.2.2.2 v0 hv0 with hpc | ⟨pl, hpl, hpc⟩
  · refine (sp_evalC0 (C := C) h e hK.1 hK.2.1 hK.2.2.1 hK.2.2.2.1.1 hK.2.2.2.2.1 hK.2.2.2.1.2.1 hK.2.2.2.1.2.2.1 l1 l2 l3 hnx hi0 hr0 hs0 (by rw [hal]; decide) (hVT mk) l4 hv0 hpc).imp (fun H1 q => ?_)
    obtain ⟨q1, q2, q3, q4, q5, q6⟩ := q
    obtain ⟨k1, k2, k3⟩ := ev_keep2 hK hM l1 l2 l3 q3 q6
    refine ⟨q1, q2, q3, k1, k2, k3, fun s hs => ?_, fun s hs hw => ?_⟩
    · unfold bts
      rw [q4 s hs]
      exact chq_state hK.2.2.2.1.1 hK.2.2.2.2.1 hK.2.2.2.1.2.1 hP l3 hnx hi0 hr0 (fun k _ => hK.2.1 k) hK.2.2.2.2.2.2 hbk (fun _ _ z => z) hv0 (fun pl z hp => absurd (hpc.symm.trans z) (fun y => nI_neg1 (by omega) y.symm)) hs
    · unfold bts
      exact q5 (s / 64) (s % 64) hw (Nat.mod_lt _ (by decide)) (by omega)
  · refine (sp_evalC1 (C := C) h e hK.1 hK.2.1 hK.2.2.1 hK.2.2.2.1.1 hK.2.2.2.2.1 hK.2.2.2.1.2.1 hK.2.2.2.1.2.2.1 l1 l2 l3 hnx hi0 hr0 hs0 (by rw [hal]; decide) (hVT _) l4 hv0 hpl rfl hpc).imp (fun H1 q => ?_)
    obtain ⟨q1, q2, q3, q4, q5, q6⟩ := q
    obtain ⟨k1, k2, k3⟩ := ev_keep2 hK hM l1 l2 l3 q3 q6
    have hor : ∀ k, k < 28 → (¬ mb (mk ||| ((1 : Int32) <<< (nI pl &&& 31))) k = 0 ↔ ¬ mb mk k = 0 ∨ k = pl) := fun k hk => mb_or mk pl k (by omega) (by omega)
    refine ⟨q1, q2, q3, k1, k2, k3, fun s hs => ?_, fun s hs hw => ?_⟩
    · unfold bts
      rw [q4 s hs]
      refine chq_state hK.2.2.2.1.1 hK.2.2.2.2.1 hK.2.2.2.1.2.1 hP l3 hnx hi0 hr0 (fun k _ => hK.2.1 k) hK.2.2.2.2.2.2 (fun k hk z => ?_) (fun k hk z => (hor k hk).mpr (Or.inl z)) hv0 (fun pl' z hp => (hor pl' (by omega)).mpr (Or.inr ?_)) hs
      · rcases (hor k hk).mp z with y | y
        · exact hbk k hk y
        · omega
      · exact (nI_inj (by omega) (by omega) (hpc.symm.trans z)).symm
    · unfold bts
      exact q5 (s / 64) (s % 64) hw (Nat.mod_lt _ (by decide)) (by omega)
end ReadyW
/-! Space.know -/
section Know2w
variable {H : mu_H} {U : Ud} {m d P : Nat} {C : Nat → Nat} {Y : Ts} {f od : Nat → Nat} {es : Nat → Int32}
def F265w : Uf := ⟨[21, 22, 16, 23], [(100, 4), (100, 5), (100, 6), (100, 7), (100, 17), (100, 14), (100, 16), (100, 21), (100, 18), (100, 19), (100, 20), (113, 1), (113, 2), (113, 5), (99, 13), (99, 19), (113, 7), (113, 8)], [(100, 3), (100, 8), (100, 12), (100, 13), (100, 15), (100, 9), (100, 10), (100, 11), (99, 18), (113, 3), (113, 4)], [(100, 3), (100, 8), (100, 12), (100, 13), (100, 15), (113, 3)], [127, 126, 117, 124, 125], true⟩
/-- what know leaves -/
def KNWw (m : Nat) (U V : Ud) (Y : Ts) (P : Nat) (f od : Nat → Nat) (es : Nat → Int32) : Prop := KNV m V Y P f od es ∧ MCS V ∧ MLW V Y P f od ∧ (BTS (V.2.2.2.2.1 124) (pd f 0 P) (EVR Y U f P od) ∧ BTS (V.2.2.2.2.1 125) (pd f 0 P) (fun s => INR Y U f P od s ∧ EVR Y U f P od s)) ∧ (∃ N us S z p, SOK V N us S z p ∧ V.2.1 99 19 = nI N ∧ (N ≤ (Y 16).1 ∧ ∀ id, id < N → ∃ fr, fr < (Y 16).1 ∧ (V.1 16).2 fr 3 = nI id) ∧ us ≤ 257 * (Y 16).1 + 256 * (us / 8192) ∧ ∀ fr, fr < (Y 16).1 → ∃ id, id < N ∧ (V.1 16).2 fr 3 = nI id ∧ p id = true ∧ ∀ s, S id s = true ↔ (s < pd f 0 P ∧ EVR Y U f P od s ∧ FRv Y U f P od fr s)) ∧ V.2.1 99 13 = 1 ∧ ∀ a c, ¬ a = 114 → V.2.2.2.2.2 a c = U.2.2.2.2.2 a c
theorem tset_fstw (W : Nat) (t : Tb) (r : Int32) (c : Nat) (v : Int32) : (tset W t r c v).1 = t.1 := by
  unfold tset
  split
  · rfl
  · split <;> rfl
theorem ax_c3w {s : Ts} {r v : Int32} {i c : Nat} (hc : c < 3) : (ax 16 s r 3 v 16).2 i c = (s 16).2 i c := by
  show ((fu s 16 (tset (wa 16) (s 16) r 3 v)) 16).2 i c = _
  rw [fu_at]
  unfold tset
  split
  · rfl
  · split
    · exact if_neg (fun y => by omega)
    · rfl
def F265aw : Uf := ⟨[], [], [], [], [124], false⟩
def F265bw : Uf := ⟨[23], [], [], [], [], false⟩
def F265cw : Uf := ⟨[21, 22, 16], [(100, 4), (100, 5), (100, 6), (100, 7), (100, 17), (100, 14), (100, 16), (100, 21), (100, 18), (100, 19), (100, 20), (113, 1), (113, 2)], [(100, 3), (100, 8), (100, 12), (100, 13), (100, 15), (100, 9), (100, 10), (100, 11), (99, 18), (113, 3), (113, 4)], [(100, 3), (100, 8), (100, 12), (100, 13), (100, 15), (113, 3)], [127, 126, 117, 124, 125], true⟩
/-- PathProver$Space.know()V -/
abbrev mu_m265w : ev_M := (4, none, [], ev_b265)
theorem mu_g265w : mu_good mu_m265w := mu_goodk ev_k265
end Know2w
