/-! RELATION: noteInputs -/
def OPT8 (t : Tb) (Y : Ts) (a n : Nat) (g mv : Nat → Nat) : Prop := t.1 = tpz Y a n ∧ ∀ k, k < tpz Y a n → t.2 k 0 = nI (a + g k) ∧ t.2 k 1 = nI (mv k) ∧ mv k ≤ 1
def INT (t : Tb) (Y : Ts) (n0 b nb : Nat) : Prop := b + nb ≤ (Y 0).1 ∧ ∃ r, n0 ≤ r ∧ r < t.1 ∧ t.2 r 0 = nI b ∧ t.2 r 1 = nI (b + nb)
def VLD (t : Tb) (Y : Ts) (es : Nat → Int32) (i0 n0 : Nat) : Prop := ∀ r, n0 ≤ r → r < t.1 → ∃ b nb rs, t.2 r 0 = nI b ∧ t.2 r 1 = nI (b + nb) ∧ t.2 r 2 = nI i0 ∧ rg Y (im Y i0) false b (b + nb) ∧ SRT Y es i0 1 b rs nb ∧ ∀ q, q < nb → ¬ oc Y (b + q) = 3
def TKP (t t0 : Tb) (n0 : Nat) : Prop := n0 ≤ t.1 ∧ ∀ r c, r < n0 → t.2 r c = t0.2 r c
/-- behind n operators -/
def NIV (t8 t3 t0 : Tb) (Y : Ts) (es : Nat → Int32) (U : Ud) (f : Nat → Nat) (P : Nat) (od : Nat → Nat) (i0 a n n0 : Nat) : Prop := ∃ g mv, OPG Y a n g ∧ MVG Y a n g mv ∧ OPT8 t8 Y a n g mv ∧ (t3.1 ≤ 64 → EQI Y U f P od i0 a n mv (INT t3 Y n0)) ∧ VLD t3 Y es i0 n0 ∧ TKP t3 t0 n0 ∧ t3.1 ≤ max n0 65
/-- the parts from c on to k are noted -/
def NIP (t3 t3a t0 : Tb) (Y : Ts) (es : Nat → Int32) (i0 a n n0 c k : Nat) (g mv : Nat → Nat) : Prop := ((∀ b nb, INT t3a Y n0 b nb → INT t3 Y n0 b nb) ∧ t3a.1 ≤ t3.1) ∧ (∀ k', c ≤ k' → k' < k → mv k' = 0 → INT t3 Y n0 (a + g k') (gnd g n (tpz Y a n) k' - g k')) ∧ VLD t3 Y es i0 n0 ∧ TKP t3 t0 n0 ∧ t3.1 ≤ max n0 65
section NoteI
variable {Y : Ts} {U : Ud} {a n k N P i0 n0 c mq p : Nat} {g mv f od : Nat → Nat} {rs : Nat → Int32} {es : Nat → Int32} {t8 t3 t3a t0 t8' t3' : Tb}
theorem or01 {x y : Nat} (hx : x ≤ 1) (hy : y ≤ 1) : nI x ||| nI y = nI (max x y) := by
  have h1 : x = 0 ∨ x = 1 := by omega
  have h2 : y = 0 ∨ y = 1 := by omega
  rcases h1 with e | e <;> rcases h2 with e2 | e2 <;> (subst e; subst e2; decide)
theorem OPG.rgo (h : OPG Y a n g) (hr : rg Y (im Y i0) false a (a + N)) (hn : n ≤ N) (hk : k < tpz Y a n) : rg Y (im Y i0) false (a + g k) (a + gnd g n (tpz Y a n) k) := by
  have hv : ∀ q, q < n → plen (oc Y (a + q)) (oa Y (a + q)) ≤ tpz Y a q := fun q hq => rg_pl hr q (by omega)
  have hS := h.sbc hv hk
  obtain ⟨y1, y2, y3⟩ := h.nd hk
  obtain ⟨g1, g2, g3, g4⟩ := hr
  rw [Nat.add_sub_cancel_left] at g3
  obtain ⟨R, eR⟩ := kst_le g3 (show g k ≤ N by omega)
  obtain ⟨L, eL⟩ := kst_le g3 (show gnd g n (tpz Y a n) k ≤ N by omega)
  have fL := kst_f g3 (by simp) (x := N - gnd g n (tpz Y a n) k) (n := gnd g n (tpz Y a n) k) (by omega) eL
  obtain ⟨L', e1, e2⟩ := hS.ks eL eR (gnd g n (tpz Y a n) k - g k) (by omega)
  rw [show g k + (gnd g n (tpz Y a n) k - g k) = gnd g n (tpz Y a n) k by omega, eL] at e2
  have e3 := Option.some.inj e2
  have hT := hS.tp (gnd g n (tpz Y a n) k - g k) (by omega)
  rw [show g k + (gnd g n (tpz Y a n) k - g k) = gnd g n (tpz Y a n) k by omega, y3, (h k hk).2.1] at hT
  refine ⟨by omega, by omega, ?_, fun q q1 q2 => g4 q (by omega) (by omega)⟩
  rw [show a + gnd g n (tpz Y a n) k - (a + g k) = gnd g n (tpz Y a n) k - g k by omega, e1]
  exact congrArg some (ls_one (by rw [kst_tp e1]; omega) (fun y => fL (by rw [e3]; exact List.mem_append_left _ y)))
theorem NIP.skip (h : NIP t3 t3a t0 Y es i0 a n n0 c k g mv) (h0 : ¬ mv k = 0) : NIP t3 t3a t0 Y es i0 a n n0 c (k + 1) g mv := by
  obtain ⟨h1, h2, h3, h4, h5⟩ := h
  refine ⟨h1, fun k' y1 y2 y3 => ?_, h3, h4, by omega⟩
  by_cases e : k' = k
  · rw [e] at y3
    exact absurd y3 h0
  · exact h2 k' y1 (by omega) y3
theorem NIP.put (h : NIP t3 t3a t0 Y es i0 a n n0 c k g mv) (ho : OPG Y a n g) (hm : MVG Y a n g mv) (hr : rg Y (im Y i0) false a (a + N)) (hs : SRT Y es i0 1 a rs N) (hn : n ≤ N) (hk : k < tpz Y a n) (h0 : mv k = 0) (hlim : t3.1 ≤ 64) (ht : t3' = tput 5 t3 (nI (a + g k)) (nI (a + gnd g n (tpz Y a n) k)) (nI i0) (-1)) : NIP t3' t3a t0 Y es i0 a n n0 c (k + 1) g mv := by
  obtain ⟨h1, h2, h3, ⟨h4, h6⟩, h5⟩ := h
  obtain ⟨y1, y2, y3⟩ := ho.nd hk
  have e1 : t3'.1 = t3.1 + 1 := by rw [ht]; rfl
  have eo : ∀ r q, r < t3.1 → t3'.2 r q = t3.2 r q := fun r q hr => by
    rw [ht]
    show (if r = t3.1 then _ else t3.2 r q) = _
    rw [if_neg (by omega)]
  have en : t3'.2 t3.1 0 = nI (a + g k) ∧ t3'.2 t3.1 1 = nI (a + gnd g n (tpz Y a n) k) ∧ t3'.2 t3.1 2 = nI i0 := by
    rw [ht]
    refine ⟨?_, ?_, ?_⟩
    · show (if t3.1 = t3.1 then (if 0 < 5 then rw_col (nI (a + g k)) (nI (a + gnd g n (tpz Y a n) k)) (nI i0) (-1) 0 else 0) else t3.2 t3.1 0) = _
      rw [if_pos rfl]; rfl
    · show (if t3.1 = t3.1 then (if 1 < 5 then rw_col (nI (a + g k)) (nI (a + gnd g n (tpz Y a n) k)) (nI i0) (-1) 1 else 0) else t3.2 t3.1 1) = _
      rw [if_pos rfl]; rfl
    · show (if t3.1 = t3.1 then (if 2 < 5 then rw_col (nI (a + g k)) (nI (a + gnd g n (tpz Y a n) k)) (nI i0) (-1) 2 else 0) else t3.2 t3.1 2) = _
      rw [if_pos rfl]; rfl
  have hup : ∀ b nb, INT t3 Y n0 b nb → INT t3' Y n0 b nb := fun b nb ⟨r0, r, r1, r2, r3, r4⟩ => ⟨r0, r, r1, by omega, by rw [eo r 0 r2]; exact r3, by rw [eo r 1 r2]; exact r4⟩
  have elen : a + g k + (gnd g n (tpz Y a n) k - g k) = a + gnd g n (tpz Y a n) k := by omega
  refine ⟨⟨fun b nb hb => hup b nb (h1.1 b nb hb), by have := h1.2; omega⟩, fun k' z1 z2 z3 => ?_, fun r r1 r2 => ?_, ⟨by omega, fun r q hq => (eo r q (by omega)).trans (h6 r q hq)⟩, by omega⟩
  · by_cases e : k' = k
    · rw [e]
      exact ⟨by have y4 := hr.2.1; omega, t3.1, h4, by omega, en.1, by rw [elen]; exact en.2.1⟩
    · exact hup _ _ (h2 k' z1 (by omega) z3)
  · by_cases e : r = t3.1
    · rw [e]
      have hS := ho.sbc (fun q hq => rg_pl hr q (by omega)) hk
      refine ⟨a + g k, gnd g n (tpz Y a n) k - g k, fun q => rs (g k + q), en.1, by rw [elen]; exact en.2.1, en.2.2, by rw [elen]; exact ho.rgo hr hn hk, ?_, fun q hq => ?_⟩
      · exact hS.srt (N := gnd g n (tpz Y a n) k) (fun q hq => hs q (by omega)) (by omega)
      · rw [Nat.add_assoc]
        exact hm k hk h0 (g k + q) (by omega) (by omega)
    · obtain ⟨b, nb, rs', z1, z2, z3, z4⟩ := h3 r r1 (by omega)
      exact ⟨b, nb, rs', by rw [eo r 0 (by omega)]; exact z1, by rw [eo r 1 (by omega)]; exact z2, by rw [eo r 2 (by omega)]; exact z3, z4⟩
theorem NIV.zero (h8 : t8.1 = 0) (hn0 : n0 = t3.1) : NIV t8 t3 t3 Y es U f P od i0 a 0 n0 := ⟨fun _ => 0, fun _ => 0, OPG.zero, fun k hk => absurd hk (Nat.not_lt_zero k), ⟨h8, fun k hk => absurd hk (Nat.not_lt_zero k)⟩, fun _ s s' _ t k hk => absurd hk (Nat.not_lt_zero k), fun r r1 r2 => absurd r2 (by omega), ⟨by omega, fun _ _ _ => rfl⟩, by omega⟩
theorem NIV.next (ho : OPG Y a n g) (hm : MVG Y a n g mv) (h8 : OPT8 t8 Y a n g mv) (hI : t3a.1 ≤ 64 → EQI Y U f P od i0 a n mv (INT t3a Y n0)) (hr : rg Y (im Y i0) false a (a + N)) (hs : SRT Y es i0 1 a rs N) (hn : n < N) (h15 : (Y 15).1 ≤ 67108864) (hp : p = plen (oc Y (a + n)) (oa Y (a + n))) (hc : c = tpz Y a n - p) (hNP : NIP t3 t3a t0 Y es i0 a n n0 c k g mv) (hk : k = tpz Y a n ∨ mq = 0 ∨ 64 < t3.1) (hkT : k ≤ tpz Y a n) (hmq : mq ≤ 1) (hq0 : mq = 0 → ¬ oc Y (a + n) = 3 ∧ ∀ k, c ≤ k → k < tpz Y a n → mv k = 0) (hq1 : ¬ mq = 0 → oc Y (a + n) = 3 ∨ ∃ k, c ≤ k ∧ k < tpz Y a n ∧ ¬ mv k = 0) (ht : t8' = tput 2 (tcut t8 c) (nI (a + (if p = 0 then n else g c))) (nI mq) 0 0) : NIV t8' t3 t0 Y es U f P od i0 a (n + 1) n0 := by
  have hv := rg_pl hr
  have hE := rg_E hr
  have hvn := hv n hn
  rw [← hp] at hvn
  obtain ⟨h1, h2, h3, h4, h5⟩ := hNP
  have eT : tpz Y a (n + 1) = c + 1 := by rw [tpz_s, ← hp, hc]
  have hO := ho.step (hv n hn)
  have hM := hm.step (mq := mq) ho (hv n hn) (by rw [← hp, ← hc]; exact hq0)
  have hEq := fun hlim : t3.1 ≤ 64 => EQI.step (mq := mq) (J := INT t3 Y n0) ho hm (hI (Nat.le_trans h1.2 hlim)) (fun q hq => hv q (by omega)) (fun q hq => hE q (by omega)) hs hn h15 h1.1 (by
    rw [← hp, ← hc]
    intro z k' k1 k2 k3
    rcases hk with y | y | y
    · exact h2 k' k1 (by omega) k3
    · exact absurd y z
    · omega) (by
    by_cases y3 : oc Y (a + n) = 3
    · exact Or.inl y3
    · refine Or.inr ⟨fun z => ?_, fun z => ?_⟩
      · apply Decidable.byContradiction
        intro hne
        rcases hq1 hne with w | ⟨k', w1, w2, w3⟩
        · exact y3 w
        · have hp0 : p = 0 := hp.trans (if_pos z)
          rw [hp0, Nat.sub_zero] at hc
          rw [← hc] at w2
          exact absurd w1 (Nat.not_le_of_lt w2)
      · apply Decidable.byContradiction
        intro hne
        rcases hq1 hne with w | ⟨k', w1, w2, w3⟩
        · exact y3 w
        · have hp0 : p = 0 := hp.trans z
          rw [hp0, Nat.sub_zero] at hc
          rw [← hc] at w2
          exact absurd w1 (Nat.not_le_of_lt w2))
  rw [← hp, ← hc] at hO hM hEq
  have e1 : t8'.1 = c + 1 := by rw [ht]; rfl
  refine ⟨_, _, hO, hM, ⟨by rw [e1, eT], fun k' hk' => ?_⟩, hEq, h3, h4, h5⟩
  rw [eT] at hk'
  rw [ht]
  show (if k' = c then (if 0 < 2 then rw_col (nI (a + (if p = 0 then n else g c))) (nI mq) 0 0 0 else 0) else (if k' < c then t8.2 k' 0 else 0)) = nI (a + (if k' = c ∧ p = 0 then n else g k')) ∧ (if k' = c then (if 1 < 2 then rw_col (nI (a + (if p = 0 then n else g c))) (nI mq) 0 0 1 else 0) else (if k' < c then t8.2 k' 1 else 0)) = nI (if k' = c then mq else mv k') ∧ (if k' = c then mq else mv k') ≤ 1
  by_cases e : k' = c
  · refine ⟨?_, ?_, ?_⟩
    · rw [if_pos e]
      show nI (a + (if p = 0 then n else g c)) = _
      by_cases hp0 : p = 0
      · rw [if_pos hp0, if_pos (show k' = c ∧ p = 0 from ⟨e, hp0⟩)]
      · rw [if_neg hp0, if_neg (show ¬ (k' = c ∧ p = 0) from fun y => hp0 y.2), e]
    · rw [if_pos e, if_pos e]
      rfl
    · rw [if_pos e]
      exact hmq
  · obtain ⟨z1, z2, z3⟩ := h8.2 k' (by clear hq1; omega)
    have hlt : k' < c := by omega
    refine ⟨?_, ?_, ?_⟩
    · rw [if_neg e, if_pos hlt, if_neg (show ¬ (k' = c ∧ p = 0) from fun y => e y.1)]
      exact z1
    · rw [if_neg e, if_pos hlt, if_neg e]
      exact z2
    · rw [if_neg e]
      exact z3
end NoteI
