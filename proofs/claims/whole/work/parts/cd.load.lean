/-! Machine.load -/
/-- where the E of an entry begins, ends, and its INSTANCE -/
def enx (Y : Ts) (e c : Nat) : Nat := ((Y 13).2 e c).toNatClampNeg
def elx (Y : Ts) (e : Nat) : Nat := enx Y e 1 - enx Y e 0
def lfe (V : Ud) (Y : Ts) (P e : Nat) : Prop := lfo V Y P (enx Y e 0) (elx Y e) (enx Y e 2)
/-- which entries have been laid out behind k of the order -/
def dnb (od : Nat → Nat) : Nat → Nat → Bool
  | 0, _ => false
  | k + 1, e => dnb od k e || od k == e
/-- how many entries that were noted are among the first k of the order -/
def mcn (M : Nat → Int32) (od : Nat → Nat) : Nat → Nat
  | 0 => 0
  | k + 1 => mcn M od k + (if M (od k) = 0 then 1 else 0)
def rmk (M : Nat → Int32) (od : Nat → Nat) (k E : Nat) : Nat := sm (fun e => if M e = 0 ∧ dnb od k e = false then 1 else 0) 0 E
/-- the order: all entries, each once -/
def ORD (t : Tb) (E : Nat) (od : Nat → Nat) : Prop := t.1 = E ∧ (∀ k, k < E → t.2 k 0 = nI (od k) ∧ od k < E) ∧ (∀ k k', k < k' → k' < E → ¬ od k = od k') ∧ ∀ e, e < E → ∃ k, k < E ∧ od k = e
/-- behind k of the order -/
def ldi (V : Ud) (Y : Ts) (M : Nat → Int32) (od : Nat → Nat) (S0 k : Nat) : Prop :=
  (V.1 21).1 = mcn M od k ∧
  (∀ q, q < k → M (od q) = 0 → (V.2.2.1 100 3).2 (od q) = nI (S0 + mcn M od q) ∧ (∀ c, c < 3 → (V.1 21).2 (mcn M od q) c = (Y 13).2 (od q) c) ∧ (V.1 21).2 (mcn M od q) 3 = nI (S0 + mcn M od q)) ∧
  ∀ e, e < (Y 13).1 → (∀ q, q < k → ¬ od q = e) → (V.2.2.1 100 3).2 e = M e
/-- what is named in n operators from a on, in an INSTANCE, has a place -/
def lfm (t15 : Tb) (mk : Int32) (M : Nat → Prop) (Y : Ts) (P a n i : Nat) : Prop := ∀ x, x < n → (oc Y (a + x) = 2 ∨ oc Y (a + x) = 3) →
  ((Y 9).2 (oa Y (a + x)) 2 = 3 → ∀ w, w < (Y 15).1 → rch Y (oa Y (a + x)) i = nI w → t15.2 w 2 = -1 ∨ ∃ pl, pl < P ∧ t15.2 w 2 = nI pl ∧ ¬ mb mk (if oc Y (a + x) = 3 then pl + 14 else pl) = 0) ∧
  ((Y 9).2 (oa Y (a + x)) 2 = 1 ∨ (Y 9).2 (oa Y (a + x)) 2 = 2 → ∀ e, e < (Y 13).1 → rch Y (oa Y (a + x)) i = nI e → M e)
/-- the Machine with an E or CHOICE loaded: its rows -/
def LR (V : Ud) (Y : Ts) (a0 N0 i0 : Nat) (od : Nat → Nat) (S0 K : Nat) (M : Nat → Prop) (rk : Nat → Nat) : Prop :=
  ((Y 13).1 ≤ (V.2.2.1 100 3).1 ∧ (V.2.2.1 100 3).1 ≤ 131072) ∧ ((V.1 21).1 = K + 1 ∧ ((V.1 21).2 K 0 = nI a0 ∧ (V.1 21).2 K 1 = nI (a0 + N0) ∧ (V.1 21).2 K 2 = nI i0 ∧ (V.1 21).2 K 3 = -1)) ∧
  (∀ q, q < (Y 13).1 → M (od q) → rk q < K ∧ (V.2.2.1 100 3).2 (od q) = nI (S0 + rk q) ∧ (∀ c, c < 3 → (V.1 21).2 (rk q) c = (Y 13).2 (od q) c) ∧ (V.1 21).2 (rk q) 3 = nI (S0 + rk q)) ∧
  (∀ q q', q < q' → M (od q) → rk q < rk q') ∧ (∀ r, r < K → ∃ q, q < (Y 13).1 ∧ M (od q) ∧ rk q = r)
/-- its sizes -/
def LZx (V : Ud) (S0 K cp dp W : Nat) (mk : Int32) : Prop :=
  (V.2.1 100 5 = nI cp ∧ V.2.1 100 7 = nI (S0 + K + cp) ∧ V.2.1 100 17 = nI W ∧ V.2.1 100 4 = mk) ∧ (1 ≤ W ∧ W ≤ 1024) ∧ ((S0 + K + cp + dp) * W ≤ (V.2.2.1 100 8).1 ∧ clz (V.2.2.1 100 8).1) ∧
  (S0 + K + cp + dp ≤ (V.2.2.1 100 12).1 ∧ (V.2.2.1 100 12).1 ≤ 131072) ∧ (dp + 1 ≤ (V.2.2.1 100 13).1 ∧ (V.2.2.1 100 13).1 ≤ 131072) ∧ (cp + 2 ≤ (V.2.2.1 100 15).1 ∧ (V.2.2.1 100 15).1 ≤ 131072) ∧ S0 + K + cp + dp ≤ 32768 ∧ 1 ≤ dp ∧ S0 = bcn mk 28
/-- what its E name, how deep they are -/
def LC (t15 : Tb) (Y : Ts) (P : Nat) (NX : Prop) (a0 N0 i0 cp dp : Nat) (mk : Int32) (M : Nat → Prop) : Prop :=
  (lfm t15 mk M Y P a0 N0 i0 ∧ (∀ x, x ≤ N0 → tpz Y a0 x ≤ dp) ∧ cp = sfz Y a0 N0) ∧
  (∀ e, e < (Y 13).1 → M e → lfm t15 mk M Y P (enx Y e 0) (elx Y e) (enx Y e 2) ∧ ∀ x, x ≤ elx Y e → tpz Y (enx Y e 0) x ≤ dp) ∧
  ∀ k, k < 32 → ¬ mb mk k = 0 → k < 28 ∧ k % 14 < P ∧ (14 ≤ k → NX)
/-- behind layOutSides: slots, no marks -/
def sdz (t : Tb) (P S0 : Nat) (mk : Int32) : Prop := t.1 = 28 ∧ ∀ k, k < 28 → ¬ mb mk k = 0 → k % 14 < P ∧ t.2 k 0 = nI (bcn mk k) ∧ bcn mk k < S0 ∧ t.2 k 3 = -1
section Load
variable {H : mu_H} {m d P a n N k i r S0 K E a0 N0 i0 dp : Nat} {C : Nat → Nat} {U V V1 : Ud} {Y : Ts} {f od : Nat → Nat} {mk : Int32} {NX : Prop} {M : Nat → Int32}
theorem en_ok (hJ : JW Y) {e : Nat} (he : e < (Y 13).1) : (Y 13).2 e 0 = nI (enx Y e 0) ∧ (Y 13).2 e 1 = nI (enx Y e 0 + elx Y e) ∧ (Y 13).2 e 2 = nI (enx Y e 2) ∧ enx Y e 2 < (Y 11).1 ∧ rg Y (im Y (enx Y e 2)) false (enx Y e 0) (enx Y e 0 + elx Y e) := by
  obtain ⟨⟨a, b, i, e0, e1, e2, hi, hr⟩, -⟩ := hJ.2.2.1 e he
  have b0 := hJ.2.2.2.2.2.2 0 (by decide)
  have b11 := hJ.2.2.2.2.2.2 11 (by decide)
  have h1 := hr.1
  have h2 := hr.2.1
  have z0 : enx Y e 0 = a := by unfold enx; rw [e0]; exact nI_clamp (by omega)
  have z1 : enx Y e 1 = b := by unfold enx; rw [e1]; exact nI_clamp (by omega)
  have z2 : enx Y e 2 = i := by unfold enx; rw [e2]; exact nI_clamp (by omega)
  have z3 : enx Y e 0 + elx Y e = b := by unfold elx; omega
  rw [z3, z0, z2]
  exact ⟨e0, e1, e2, hi, hr⟩
theorem sfz_0 (h : ∀ x, x < n → oc Y (a + x) < 32) : sfz Y a n = 0 := by
  induction n with
  | zero => rfl
  | succ n ih =>
    have h1 := h n (by omega)
    show (if oc Y (a + n) = 32 ∨ oc Y (a + n) = 33 then _ else sfz Y a n) = 0
    rw [if_neg (by omega)]
    exact ih (fun x hx => h x (by omega))
theorem nti_0 (h1 : ∀ e, e < (Y 13).1 → (V.2.2.1 100 3).2 e = -1) (h2 : (V.1 21).1 = 0) (h3 : V.2.1 100 4 = 0) : nti V Y P NX := by
  have hc : ∀ n, n ≤ (Y 13).1 → sm (fun e => if (V.2.2.1 100 3).2 e = 0 then 1 else 0) 0 n = 0 := by
    intro n
    induction n with
    | zero => intro _; rfl
    | succ n ih =>
      intro hn
      show sm _ 0 n + (if (V.2.2.1 100 3).2 (0 + n) = 0 then 1 else 0) = 0
      rw [ih (by omega), Nat.zero_add, Nat.zero_add, if_neg (by rw [h1 n (by omega)]; decide)]
  refine ⟨fun e he => Or.inr (h1 e he), by rw [h2]; exact (hc _ (Nat.le_refl _)).symm, fun r hr => by omega, fun e he z => ?_, fun k hk hb => ?_⟩
  · rw [h1 e he] at z; exact absurd z (by decide)
  · rw [h3, mb_0 k hk] at hb; exact absurd rfl hb
theorem dnb_iff {e : Nat} : dnb od k e = true ↔ ∃ q, q < k ∧ od q = e := by
  induction k with
  | zero => exact ⟨fun z => absurd z (by simp [dnb]), fun ⟨q, hq, _⟩ => absurd hq (Nat.not_lt_zero _)⟩
  | succ k ih =>
    show (dnb od k e || od k == e) = true ↔ _
    rw [Bool.or_eq_true, ih]
    constructor
    · rintro (⟨q, h1, h2⟩ | z)
      · exact ⟨q, by omega, h2⟩
      · exact ⟨k, by omega, by simpa using z⟩
    · rintro ⟨q, h1, h2⟩
      by_cases hq : q = k
      · right; subst hq; simp [h2]
      · exact Or.inl ⟨q, by omega, h2⟩
theorem rmk_0 : rmk M od 0 E = sm (fun e => if M e = 0 then 1 else 0) 0 E := by
  unfold rmk
  congr 1
  funext e
  simp [dnb]
theorem rmk_step (hk : od k < E) (hn : dnb od k (od k) = false) : rmk M od k E = rmk M od (k + 1) E + (if M (od k) = 0 then 1 else 0) := by
  have z := sm_upd (f := fun e => if M e = 0 ∧ dnb od k e = false then 1 else 0) (g := fun e => if M e = 0 ∧ dnb od (k + 1) e = false then 1 else 0) (e0 := od k) (fun e he => by
    have : dnb od (k + 1) e = dnb od k e := by
      show (dnb od k e || od k == e) = _
      rw [show (od k == e) = false by simp [Ne.symm he], Bool.or_false]
    show (if M e = 0 ∧ dnb od (k + 1) e = false then 1 else 0) = _
    rw [this]) E hk
  have e1 : (if M (od k) = 0 ∧ dnb od (k + 1) (od k) = false then 1 else 0) = 0 := if_neg (fun y => by
    have y2 := y.2
    rw [show dnb od (k + 1) (od k) = true by show (dnb od k (od k) || od k == od k) = true; simp] at y2
    cases y2)
  have e2 : (if M (od k) = 0 ∧ dnb od k (od k) = false then 1 else 0) = (if M (od k) = 0 then 1 else 0) := by simp [hn]
  unfold rmk
  have z' : sm (fun e => if M e = 0 ∧ dnb od (k + 1) e = false then 1 else 0) 0 E + (if M (od k) = 0 ∧ dnb od k (od k) = false then 1 else 0) = sm (fun e => if M e = 0 ∧ dnb od k e = false then 1 else 0) 0 E + (if M (od k) = 0 ∧ dnb od (k + 1) (od k) = false then 1 else 0) := z
  rw [e1, e2] at z'
  omega
theorem sm_pos {g : Nat → Nat} {e : Nat} : ∀ {n : Nat}, e < n → g e ≤ sm g 0 n
  | 0, h => absurd h (Nat.not_lt_zero _)
  | n + 1, h => by
    show g e ≤ sm g 0 n + g (0 + n)
    rw [Nat.zero_add]
    by_cases z : e = n
    · subst z; omega
    · have := sm_pos (g := g) (e := e) (n := n) (by omega); omega
theorem rmk_all (h : rmk M od k E = 0) {e : Nat} (he : e < E) (hm : M e = 0) : ∃ q, q < k ∧ od q = e := by
  apply dnb_iff.mp
  have z := sm_pos (g := fun e => if M e = 0 ∧ dnb od k e = false then 1 else 0) he
  have z : (if M e = 0 ∧ dnb od k e = false then 1 else 0) ≤ rmk M od k E := z
  cases hd : dnb od k e
  · rw [if_pos ⟨hm, hd⟩] at z; omega
  · rfl
theorem rmk_none (h : ∀ e, e < E → M e = 0 → ∃ q, q < k ∧ od q = e) : rmk M od k E = 0 := by
  unfold rmk
  have : ∀ n, n ≤ E → sm (fun e => if M e = 0 ∧ dnb od k e = false then 1 else 0) 0 n = 0 := by
    intro n
    induction n with
    | zero => intro _; rfl
    | succ n ih =>
      intro hn
      show sm _ 0 n + (if M (0 + n) = 0 ∧ dnb od k (0 + n) = false then 1 else 0) = 0
      rw [ih (by omega), Nat.zero_add, Nat.zero_add]
      refine if_neg (fun y => ?_)
      have y2 := y.2
      rw [dnb_iff.mpr (h n (by omega) y.1)] at y2
      cases y2
  exact this E (Nat.le_refl _)
theorem mcn_le {q k : Nat} (h : q ≤ k) : mcn M od q ≤ mcn M od k := by
  induction k with
  | zero => rw [Nat.le_zero.mp h]; exact Nat.le_refl _
  | succ k ih =>
    by_cases e : q = k + 1
    · rw [e]; exact Nat.le_refl _
    · have := ih (by omega)
      show _ ≤ mcn M od k + _
      omega
theorem mcn_lt {q k : Nat} (h : q < k) (hm : M (od q) = 0) : mcn M od q < mcn M od k := by
  have h1 : mcn M od (q + 1) = mcn M od q + 1 := by show mcn M od q + (if M (od q) = 0 then 1 else 0) = _; rw [if_pos hm]
  have h2 := mcn_le (M := M) (od := od) (show q + 1 ≤ k by omega)
  omega
theorem mcn_inv {r k : Nat} (h : r < mcn M od k) : ∃ q, q < k ∧ M (od q) = 0 ∧ mcn M od q = r := by
  induction k with
  | zero => exact absurd h (Nat.not_lt_zero _)
  | succ k ih =>
    by_cases hr : r < mcn M od k
    · obtain ⟨q, h1, h2⟩ := ih hr; exact ⟨q, by omega, h2⟩
    · have h : r < mcn M od k + (if M (od k) = 0 then 1 else 0) := h
      by_cases hm : M (od k) = 0
      · rw [if_pos hm] at h; exact ⟨k, by omega, hm, by omega⟩
      · rw [if_neg hm] at h; omega
theorem ldi_0 (h : (V.1 21).1 = 0) (hM : ∀ e, (V.2.2.1 100 3).2 e = M e) : ldi V Y M od S0 0 := ⟨h, fun q hq => absurd hq (Nat.not_lt_zero _), fun e _ _ => hM e⟩
theorem ldi_skip (h : ldi V Y M od S0 k) (hm : ¬ M (od k) = 0) : ldi V Y M od S0 (k + 1) := by
  obtain ⟨h1, h2, h3⟩ := h
  refine ⟨by rw [h1]; show _ = mcn M od k + _; rw [if_neg hm]; rfl, fun q hq hz => h2 q ?_ hz, fun e he hn => h3 e he (fun q hq => hn q (by omega))⟩
  by_cases e : q = k
  · subst e; exact absurd hz hm
  · omega
theorem ldi_put (h : ldi V Y M od S0 k) (hO : ∀ q, q < k → ¬ od q = od k) (hm : M (od k) = 0) (hs : ∀ e, (V1.2.2.1 100 3).2 e = if e = od k then nI (S0 + mcn M od k) else (V.2.2.1 100 3).2 e) (hT : V1.1 21 = ap 21 V.1 ((Y 13).2 (od k) 0) ((Y 13).2 (od k) 1) ((Y 13).2 (od k) 2) (nI (S0 + mcn M od k)) 21) : ldi V1 Y M od S0 (k + 1) := by
  obtain ⟨h1, h2, h3⟩ := h
  have e1 : mcn M od (k + 1) = mcn M od k + 1 := by show mcn M od k + (if M (od k) = 0 then 1 else 0) = _; rw [if_pos hm]
  have t2 : ∀ r c, r < (V.1 21).1 → (V1.1 21).2 r c = (V.1 21).2 r c := fun r c hr => by rw [hT]; exact ap_lt hr
  have t3 : ∀ c, c < 4 → (V1.1 21).2 (V.1 21).1 c = rw_col ((Y 13).2 (od k) 0) ((Y 13).2 (od k) 1) ((Y 13).2 (od k) 2) (nI (S0 + mcn M od k)) c := fun c hc => by
    rw [hT]; exact ap_new (show c < wa 21 from hc)
  refine ⟨by rw [hT, ap_n, h1, e1], fun q hq hz => ?_, fun e he hn => ?_⟩
  · by_cases e : q = k
    · subst e
      refine ⟨by rw [hs, if_pos rfl], fun c hc => ?_, ?_⟩
      · rw [← h1, t3 c (by omega)]
        rcases (show c = 0 ∨ c = 1 ∨ c = 2 by omega) with z | z | z <;> (subst z; rfl)
      · rw [← h1, t3 3 (by decide), h1]; rfl
    · obtain ⟨y1, y2, y3⟩ := h2 q (by omega) hz
      have hl := mcn_lt (show q < k by omega) hz
      refine ⟨by rw [hs, if_neg (hO q (by omega))]; exact y1, fun c hc => by rw [t2 _ _ (by omega)]; exact y2 c hc, by rw [t2 _ _ (by omega)]; exact y3⟩
  · rw [hs, if_neg (fun z => hn k (by omega) z.symm)]
    exact h3 e he (fun q hq => hn q (by omega))
theorem sdz_lst (hN : N = 28) (hs : (U.1 22).1 = 28) (hm : ∀ k, k < 28 → ¬ mb mk k = 0 → k % 14 < P) (hV : V.1 22 = lst mk U.1 N 22) : sdz (V.1 22) P (bcn mk N) mk := by
  obtain ⟨l1, l2, l3, l4⟩ := lst_ok (mk := mk) (s := U.1) (n := N) hs (by omega)
  unfold sdz
  rw [hV]
  exact ⟨l1, fun k hk hb => ⟨hm k hk hb, (l3 k (by omega)).2 hb, bcn_lt (by omega) hb, (l3 k (by omega)).1⟩⟩
theorem sdz_x {W : Nat} (h : sdz (V.1 22) P S0 mk) : sdx V W P S0 f mk (bcn mk) := by
  refine ⟨h.1, fun k hk hb => ?_, fun k k' hk hk' hb hb' he => ?_⟩
  · obtain ⟨h1, h2, h3, h4⟩ := h.2 k hk hb
    exact ⟨h1, h2, h3, fun q hq hq2 => by rw [h4] at hq; exact absurd hq.symm (nI_neg1 hq2)⟩
  · by_cases h1 : k < k'
    · have := bcn_lt h1 hb; omega
    · by_cases h2 : k' < k
      · have := bcn_lt h2 hb'; omega
      · omega
def Fsi : Uf := ⟨[22], [], [], [], [], false⟩
theorem lfo_m (h : lfo V Y P a n i) (hM : ∀ e, (V.2.2.1 100 3).2 e = M e) (h15 : V.1 15 = U.1 15) (hk : V.2.1 100 4 = mk) : lfm (U.1 15) mk (fun e => M e = 0) Y P a n i := by
  intro x hx ho
  obtain ⟨h1, h2⟩ := h x hx ho
  rw [h15, hk] at h1
  exact ⟨h1, fun z e he er => (hM e).symm.trans (h2 z e he er)⟩
theorem lfe_eq {e e1 : Nat} (h : ∀ c, c < 3 → (Y 13).2 e c = (Y 13).2 e1 c) : enx Y e 0 = enx Y e1 0 ∧ elx Y e = elx Y e1 ∧ enx Y e 2 = enx Y e1 2 := by
  unfold elx enx
  rw [h 0 (by decide), h 1 (by decide), h 2 (by decide)]
  exact ⟨rfl, rfl, rfl⟩
theorem nm_of (hJ : JW Y) {q : Nat} (hq : q < (Y 0).1) (h : oc Y q = 2 ∨ oc Y q = 3) : (Y 0).2 q 0 = 2 ∨ (Y 0).2 q 0 = 3 := by
  have e := (okc_n hJ.2.2.2.2.2.1.2 hq).1
  rcases h with z | z
  · left; rw [e, z]; rfl
  · right; rw [e, z]; rfl
/-- PathProver$Machine.load(III)V -/
abbrev mu_m203 : ev_M := (11, none, [], ev_b203)
theorem mu_g203 : mu_good mu_m203 := mu_goodk ev_k203
def F203 : Uf := ⟨[21, 22], [(100, 4), (100, 5), (100, 6), (100, 7), (100, 17)], [(100, 3), (100, 8), (100, 12), (100, 13), (100, 15)], [(100, 3), (100, 8), (100, 12), (100, 13), (100, 15)], [], false⟩
def F203a : Uf := ⟨[21], [(100, 4), (100, 5), (100, 6)], [(100, 3)], [], [], false⟩
def F203b : Uf := ⟨[21], [], [(100, 3)], [], [], false⟩
end Load
