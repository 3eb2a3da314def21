/-! Machine.load -/
/-- where the E of an entry begins, ends, and its INSTANCE -/
def enx (Y : Ts) (e c : Nat) : Nat := ((Y 13).2 e c).toNatClampNeg
def elx (Y : Ts) (e : Nat) : Nat := enx Y e 1 - enx Y e 0
def lfe (V : Ud) (Y : Ts) (P e : Nat) : Prop := lfo V Y P (enx Y e 0) (elx Y e) (enx Y e 2)
/-- which entries have been laid out behind k of the order -/
def dnb (od : Nat → Nat) : Nat → Nat → Bool
  | 0, _ => false
  | k + 1, e => dnb od k e || od k == e
/-- how many entries that were noted are among the first k of the order -/
def mcn (M : Nat → Int32) (od : Nat → Nat) : Nat → Nat
  | 0 => 0
  | k + 1 => mcn M od k + (if M (od k) = 0 then 1 else 0)
def rmk (M : Nat → Int32) (od : Nat → Nat) (k E : Nat) : Nat := sm (fun e => if M e = 0 ∧ dnb od k e = false then 1 else 0) 0 E
/-- the order: all entries, each once -/
def ORD (t : Tb) (E : Nat) (od : Nat → Nat) : Prop := t.1 = E ∧ (∀ k, k < E → t.2 k 0 = nI (od k) ∧ od k < E) ∧ (∀ k k', k < k' → k' < E → ¬ od k = od k') ∧ ∀ e, e < E → ∃ k, k < E ∧ od k = e
/-- behind k of the order -/
def ldi (V : Ud) (Y : Ts) (M : Nat → Int32) (od : Nat → Nat) (S0 k : Nat) : Prop :=
  (V.1 21).1 = mcn M od k ∧
  (∀ q, q < k → M (od q) = 0 → (V.2.2.1 100 3).2 (od q) = nI (S0 + mcn M od q) ∧ (∀ c, c < 3 → (V.1 21).2 (mcn M od q) c = (Y 13).2 (od q) c) ∧ (V.1 21).2 (mcn M od q) 3 = nI (S0 + mcn M od q)) ∧
  ∀ e, e < (Y 13).1 → (∀ q, q < k → ¬ od q = e) → (V.2.2.1 100 3).2 e = M e
/-- what is named in n operators from a on, in an INSTANCE, has a place -/
def lfm (t15 : Tb) (mk : Int32) (M : Nat → Prop) (Y : Ts) (P a n i : Nat) : Prop := ∀ x, x < n → (oc Y (a + x) = 2 ∨ oc Y (a + x) = 3) →
  ((Y 9).2 (oa Y (a + x)) 2 = 3 → ∀ w, w < (Y 15).1 → rch Y (oa Y (a + x)) i = nI w → t15.2 w 2 = -1 ∨ ∃ pl, pl < P ∧ t15.2 w 2 = nI pl ∧ ¬ mb mk (if oc Y (a + x) = 3 then pl + 14 else pl) = 0) ∧
  ((Y 9).2 (oa Y (a + x)) 2 = 1 ∨ (Y 9).2 (oa Y (a + x)) 2 = 2 → ∀ e, e < (Y 13).1 → rch Y (oa Y (a + x)) i = nI e → M e)
/-- the Machine with an E or CHOICE loaded: its rows -/
def LR (V : Ud) (Y : Ts) (a0 N0 i0 : Nat) (od : Nat → Nat) (S0 K : Nat) (M : Nat → Prop) (rk : Nat → Nat) : Prop :=
  ((Y 13).1 ≤ (V.2.2.1 100 3).1 ∧ (V.2.2.1 100 3).1 ≤ 131072) ∧ ((V.1 21).1 = K + 1 ∧ ((V.1 21).2 K 0 = nI a0 ∧ (V.1 21).2 K 1 = nI (a0 + N0) ∧ (V.1 21).2 K 2 = nI i0 ∧ (V.1 21).2 K 3 = -1)) ∧
  (∀ q, q < (Y 13).1 → M (od q) → rk q < K ∧ (V.2.2.1 100 3).2 (od q) = nI (S0 + rk q) ∧ (∀ c, c < 3 → (V.1 21).2 (rk q) c = (Y 13).2 (od q) c) ∧ (V.1 21).2 (rk q) 3 = nI (S0 + rk q)) ∧
  (∀ q q', q < q' → M (od q) → rk q < rk q') ∧ (∀ r, r < K → ∃ q, q < (Y 13).1 ∧ M (od q) ∧ rk q = r)
/-- its sizes -/
def LZx (V : Ud) (S0 K cp dp W : Nat) (mk : Int32) : Prop :=
  (V.2.1 100 5 = nI cp ∧ V.2.1 100 7 = nI (S0 + K + cp) ∧ V.2.1 100 17 = nI W ∧ V.2.1 100 4 = mk) ∧ (1 ≤ W ∧ W ≤ 1024) ∧ ((S0 + K + cp + dp) * W ≤ (V.2.2.1 100 8).1 ∧ clz (V.2.2.1 100 8).1) ∧
  (S0 + K + cp + dp ≤ (V.2.2.1 100 12).1 ∧ (V.2.2.1 100 12).1 ≤ 131072) ∧ (dp + 1 ≤ (V.2.2.1 100 13).1 ∧ (V.2.2.1 100 13).1 ≤ 131072) ∧ (cp + 2 ≤ (V.2.2.1 100 15).1 ∧ (V.2.2.1 100 15).1 ≤ 131072) ∧ S0 + K + cp + dp ≤ 32768 ∧ 1 ≤ dp ∧ S0 = bcn mk 28
/-- what its E name, how deep they are -/
def LC (t15 : Tb) (Y : Ts) (P : Nat) (NX : Prop) (a0 N0 i0 cp dp : Nat) (mk : Int32) (M : Nat → Prop) : Prop :=
  (lfm t15 mk M Y P a0 N0 i0 ∧ (∀ x, x ≤ N0 → tpz Y a0 x ≤ dp) ∧ cp = sfz Y a0 N0) ∧
  (∀ e, e < (Y 13).1 → M e → lfm t15 mk M Y P (enx Y e 0) (elx Y e) (enx Y e 2) ∧ ∀ x, x ≤ elx Y e → tpz Y (enx Y e 0) x ≤ dp) ∧
  ∀ k, k < 32 → ¬ mb mk k = 0 → k < 28 ∧ k % 14 < P ∧ (14 ≤ k → NX)
/-- behind layOutSides: slots, no marks -/
def sdz (t : Tb) (P S0 : Nat) (mk : Int32) : Prop := t.1 = 28 ∧ ∀ k, k < 28 → ¬ mb mk k = 0 → k % 14 < P ∧ t.2 k 0 = nI (bcn mk k) ∧ bcn mk k < S0 ∧ t.2 k 3 = -1
section Load
variable {H : mu_H} {m d P a n N k i r S0 K E a0 N0 i0 dp : Nat} {C : Nat → Nat} {U V V1 : Ud} {Y : Ts} {f od : Nat → Nat} {mk : Int32} {NX : Prop} {M : Nat → Int32}
theorem en_ok (hJ : JW Y) {e : Nat} (he : e < (Y 13).1) : (Y 13).2 e 0 = nI (enx Y e 0) ∧ (Y 13).2 e 1 = nI (enx Y e 0 + elx Y e) ∧ (Y 13).2 e 2 = nI (enx Y e 2) ∧ enx Y e 2 < (Y 11).1 ∧ rg Y (im Y (enx Y e 2)) false (enx Y e 0) (enx Y e 0 + elx Y e) := by
  obtain ⟨⟨a, b, i, e0, e1, e2, hi, hr⟩, -⟩ := hJ.2.2.1 e he
  have b0 := hJ.2.2.2.2.2.2 0 (by decide)
  have b11 := hJ.2.2.2.2.2.2 11 (by decide)
  have h1 := hr.1
  have h2 := hr.2.1
  have z0 : enx Y e 0 = a := by unfold enx; rw [e0]; exact nI_clamp (by omega)
  have z1 : enx Y e 1 = b := by unfold enx; rw [e1]; exact nI_clamp (by omega)
  have z2 : enx Y e 2 = i := by unfold enx; rw [e2]; exact nI_clamp (by omega)
  have z3 : enx Y e 0 + elx Y e = b := by unfold elx; omega
  rw [z3, z0, z2]
  exact ⟨e0, e1, e2, hi, hr⟩
theorem sfz_0 (h : ∀ x, x < n → oc Y (a + x) < 32) : sfz Y a n = 0 := by
  induction n with
  | zero => rfl
  | succ n ih =>
    have h1 := h n (by omega)
    show (if oc Y (a + n) = 32 ∨ oc Y (a + n) = 33 then _ else sfz Y a n) = 0
    rw [if_neg (by omega)]
    exact ih (fun x hx => h x (by omega))
theorem nti_0 (h1 : ∀ e, e < (Y 13).1 → (V.2.2.1 100 3).2 e = -1) (h2 : (V.1 21).1 = 0) (h3 : V.2.1 100 4 = 0) : nti V Y P NX := by
  have hc : ∀ n, n ≤ (Y 13).1 → sm (fun e => if (V.2.2.1 100 3).2 e = 0 then 1 else 0) 0 n = 0 := by
    intro n
    induction n with
    | zero => intro _; rfl
    | succ n ih =>
      intro hn
      show sm _ 0 n + (if (V.2.2.1 100 3).2 (0 + n) = 0 then 1 else 0) = 0
      rw [ih (by omega), Nat.zero_add, Nat.zero_add, if_neg (by rw [h1 n (by omega)]; decide)]
  refine ⟨fun e he => Or.inr (h1 e he), by rw [h2]; exact (hc _ (Nat.le_refl _)).symm, fun r hr => by omega, fun e he z => ?_, fun k hk hb => ?_⟩
  · rw [h1 e he] at z; exact absurd z (by decide)
  · rw [h3, mb_0 k hk] at hb; exact absurd rfl hb
theorem dnb_iff {e : Nat} : dnb od k e = true ↔ ∃ q, q < k ∧ od q = e := by
  induction k with
  | zero => exact ⟨fun z => absurd z (by simp [dnb]), fun ⟨q, hq, _⟩ => absurd hq (Nat.not_lt_zero _)⟩
  | succ k ih =>
    show (dnb od k e || od k == e) = true ↔ _
    rw [Bool.or_eq_true, ih]
    constructor
    · rintro (⟨q, h1, h2⟩ | z)
      · exact ⟨q, by omega, h2⟩
      · exact ⟨k, by omega, by simpa using z⟩
    · rintro ⟨q, h1, h2⟩
      by_cases hq : q = k
      · right; subst hq; simp [h2]
      · exact Or.inl ⟨q, by omega, h2⟩
theorem rmk_0 : rmk M od 0 E = sm (fun e => if M e = 0 then 1 else 0) 0 E := by
  unfold rmk
  congr 1
  funext e
  simp [dnb]
theorem rmk_step (hk : od k < E) (hn : dnb od k (od k) = false) : rmk M od k E = rmk M od (k + 1) E + (if M (od k) = 0 then 1 else 0) := by
  have z := sm_upd (f := fun e => if M e = 0 ∧ dnb od k e = false then 1 else 0) (g := fun e => if M e = 0 ∧ dnb od (k + 1) e = false then 1 else 0) (e0 := od k) (fun e he => by
    have : dnb od (k + 1) e = dnb od k e := by
      show (dnb od k e || od k == e) = _
      rw [show (od k == e) = false by simp [Ne.symm he], Bool.or_false]
    show (if M e = 0 ∧ dnb od (k + 1) e = false then 1 else 0) = _
    rw [this]) E hk
  have e1 : (if M (od k) = 0 ∧ dnb od (k + 1) (od k) = false then 1 else 0) = 0 := if_neg (fun y => by
    have y2 := y.2
    rw [show dnb od (k + 1) (od k) = true by show (dnb od k (od k) || od k == od k) = true; simp] at y2
    cases y2)
  have e2 : (if M (od k) = 0 ∧ dnb od k (od k) = false then 1 else 0) = (if M (od k) = 0 then 1 else 0) := by simp [hn]
  unfold rmk
  have z' : sm (fun e => if M e = 0 ∧ dnb od (k + 1) e = false then 1 else 0) 0 E + (if M (od k) = 0 ∧ dnb od k (od k) = false then 1 else 0) = sm (fun e => if M e = 0 ∧ dnb od k e = false then 1 else 0) 0 E + (if M (od k) = 0 ∧ dnb od (k + 1) (od k) = false then 1 else 0) := z
  rw [e1, e2] at z'
  omega
theorem sm_pos {g : Nat → Nat} {e : Nat} : ∀ {n : Nat}, e < n → g e ≤ sm g 0 n
  | 0, h => absurd h (Nat.not_lt_zero _)
  | n + 1, h => by
    show g e ≤ sm g 0 n + g (0 + n)
    rw [Nat.zero_add]
    by_cases z : e = n
    · subst z; omega
    · have := sm_pos (g := g) (e := e) (n := n) (by omega); omega
theorem rmk_all (h : rmk M od k E = 0) {e : Nat} (he : e < E) (hm : M e = 0) : ∃ q, q < k ∧ od q = e := by
  apply dnb_iff.mp
  have z := sm_pos (g := fun e => if M e = 0 ∧ dnb od k e = false then 1 else 0) he
  have z : (if M e = 0 ∧ dnb od k e = false then 1 else 0) ≤ rmk M od k E := z
  cases hd : dnb od k e
  · rw [if_pos ⟨hm, hd⟩] at z; omega
  · rfl
theorem rmk_none (h : ∀ e, e < E → M e = 0 → ∃ q, q < k ∧ od q = e) : rmk M od k E = 0 := by
  unfold rmk
  have : ∀ n, n ≤ E → sm (fun e => if M e = 0 ∧ dnb od k e = false then 1 else 0) 0 n = 0 := by
    intro n
    induction n with
    | zero => intro _; rfl
    | succ n ih =>
      intro hn
      show sm _ 0 n + (if M (0 + n) = 0 ∧ dnb od k (0 + n) = false then 1 else 0) = 0
      rw [ih (by omega), Nat.zero_add, Nat.zero_add]
      refine if_neg (fun y => ?_)
      have y2 := y.2
      rw [dnb_iff.mpr (h n (by omega) y.1)] at y2
      cases y2
  exact this E (Nat.le_refl _)
theorem mcn_le {q k : Nat} (h : q ≤ k) : mcn M od q ≤ mcn M od k := by
  induction k with
  | zero => rw [Nat.le_zero.mp h]; exact Nat.le_refl _
  | succ k ih =>
    by_cases e : q = k + 1
    · rw [e]; exact Nat.le_refl _
    · have := ih (by omega)
      show _ ≤ mcn M od k + _
      omega
theorem mcn_lt {q k : Nat} (h : q < k) (hm : M (od q) = 0) : mcn M od q < mcn M od k := by
  have h1 : mcn M od (q + 1) = mcn M od q + 1 := by show mcn M od q + (if M (od q) = 0 then 1 else 0) = _; rw [if_pos hm]
  have h2 := mcn_le (M := M) (od := od) (show q + 1 ≤ k by omega)
  omega
theorem mcn_inv {r k : Nat} (h : r < mcn M od k) : ∃ q, q < k ∧ M (od q) = 0 ∧ mcn M od q = r := by
  induction k with
  | zero => exact absurd h (Nat.not_lt_zero _)
  | succ k ih =>
    by_cases hr : r < mcn M od k
    · obtain ⟨q, h1, h2⟩ := ih hr; exact ⟨q, by omega, h2⟩
    · have h : r < mcn M od k + (if M (od k) = 0 then 1 else 0) := h
      by_cases hm : M (od k) = 0
      · rw [if_pos hm] at h; exact ⟨k, by omega, hm, by omega⟩
      · rw [if_neg hm] at h; omega
theorem ldi_0 (h : (V.1 21).1 = 0) (hM : ∀ e, (V.2.2.1 100 3).2 e = M e) : ldi V Y M od S0 0 := ⟨h, fun q hq => absurd hq (Nat.not_lt_zero _), fun e _ _ => hM e⟩
theorem ldi_skip (h : ldi V Y M od S0 k) (hm : ¬ M (od k) = 0) : ldi V Y M od S0 (k + 1) := by
  obtain ⟨h1, h2, h3⟩ := h
  refine ⟨by rw [h1]; show _ = mcn M od k + _; rw [if_neg hm]; rfl, fun q hq hz => h2 q ?_ hz, fun e he hn => h3 e he (fun q hq => hn q (by omega))⟩
  by_cases e : q = k
  · subst e; exact absurd hz hm
  · omega
theorem ldi_put (h : ldi V Y M od S0 k) (hO : ∀ q, q < k → ¬ od q = od k) (hm : M (od k) = 0) (hs : ∀ e, (V1.2.2.1 100 3).2 e = if e = od k then nI (S0 + mcn M od k) else (V.2.2.1 100 3).2 e) (hT : V1.1 21 = ap 21 V.1 ((Y 13).2 (od k) 0) ((Y 13).2 (od k) 1) ((Y 13).2 (od k) 2) (nI (S0 + mcn M od k)) 21) : ldi V1 Y M od S0 (k + 1) := by
  obtain ⟨h1, h2, h3⟩ := h
  have e1 : mcn M od (k + 1) = mcn M od k + 1 := by show mcn M od k + (if M (od k) = 0 then 1 else 0) = _; rw [if_pos hm]
  have t2 : ∀ r c, r < (V.1 21).1 → (V1.1 21).2 r c = (V.1 21).2 r c := fun r c hr => by rw [hT]; exact ap_lt hr
  have t3 : ∀ c, c < 4 → (V1.1 21).2 (V.1 21).1 c = rw_col ((Y 13).2 (od k) 0) ((Y 13).2 (od k) 1) ((Y 13).2 (od k) 2) (nI (S0 + mcn M od k)) c := fun c hc => by
    rw [hT]; exact ap_new (show c < wa 21 from hc)
  refine ⟨by rw [hT, ap_n, h1, e1], fun q hq hz => ?_, fun e he hn => ?_⟩
  · by_cases e : q = k
    · subst e
      refine ⟨by rw [hs, if_pos rfl], fun c hc => ?_, ?_⟩
      · rw [← h1, t3 c (by omega)]
        rcases (show c = 0 ∨ c = 1 ∨ c = 2 by omega) with z | z | z <;> (subst z; rfl)
      · rw [← h1, t3 3 (by decide), h1]; rfl
    · obtain ⟨y1, y2, y3⟩ := h2 q (by omega) hz
      have hl := mcn_lt (show q < k by omega) hz
      refine ⟨by rw [hs, if_neg (hO q (by omega))]; exact y1, fun c hc => by rw [t2 _ _ (by omega)]; exact y2 c hc, by rw [t2 _ _ (by omega)]; exact y3⟩
  · rw [hs, if_neg (fun z => hn k (by omega) z.symm)]
    exact h3 e he (fun q hq => hn q (by omega))
theorem sdz_lst (hN : N = 28) (hs : (U.1 22).1 = 28) (hm : ∀ k, k < 28 → ¬ mb mk k = 0 → k % 14 < P) (hV : V.1 22 = lst mk U.1 N 22) : sdz (V.1 22) P (bcn mk N) mk := by
  obtain ⟨l1, l2, l3, l4⟩ := lst_ok (mk := mk) (s := U.1) (n := N) hs (by omega)
  unfold sdz
  rw [hV]
  exact ⟨l1, fun k hk hb => ⟨hm k hk hb, (l3 k (by omega)).2 hb, bcn_lt (by omega) hb, (l3 k (by omega)).1⟩⟩
theorem sdz_x {W : Nat} (h : sdz (V.1 22) P S0 mk) : sdx V W P S0 f mk (bcn mk) := by
  refine ⟨h.1, fun k hk hb => ?_, fun k k' hk hk' hb hb' he => ?_⟩
  · obtain ⟨h1, h2, h3, h4⟩ := h.2 k hk hb
    exact ⟨h1, h2, h3, fun q hq hq2 => by rw [h4] at hq; exact absurd hq.symm (nI_neg1 hq2)⟩
  · by_cases h1 : k < k'
    · have := bcn_lt h1 hb; omega
    · by_cases h2 : k' < k
      · have := bcn_lt h2 hb'; omega
      · omega
def Fsi : Uf := ⟨[22], [], [], [], [], false⟩
theorem mc_sides2 (h : um m H) (e : ud m H = U) (hmk : U.2.1 100 4 = mk) (h22 : (U.1 22).1 = 28) (hm : ∀ k, k < 28 → ¬ mb mk k = 0 → k % 14 < P) (hS0 : S0 = bcn mk 28) : mu_TI (mu_D (d + 2)) 205 [.inr (.inr (some 100))] H (fun x H1 => x = nI S0 ∧ um m H1 ∧ ur m C H H1 ∧ uq Fsi U (ud m H1) ∧ sdz ((ud m H1).1 22) P S0 mk) := by
  have z := mc_sides (d := d) (C := C) h e hmk
  rw [← hS0] at z
  refine z.imp (fun x H1 q => ?_)
  obtain ⟨q1, q2, q3, q4⟩ := q
  refine ⟨q1, q2, q3, ?_, ?_⟩
  · rw [q4]
    exact (uq.refl _ _).T (fun q hq => (lst_ok (mk := mk) (s := U.1) (n := 28) h22 (Nat.le_refl _)).2.2.2 q (in1_ne (j := 22) rfl hq))
  · rw [q4, hS0]
    exact sdz_lst (U := U) (V := upT U (lst mk U.1 28)) rfl h22 hm rfl
theorem lfo_m (h : lfo V Y P a n i) (hM : ∀ e, (V.2.2.1 100 3).2 e = M e) (h15 : V.1 15 = U.1 15) (hk : V.2.1 100 4 = mk) : lfm (U.1 15) mk (fun e => M e = 0) Y P a n i := by
  intro x hx ho
  obtain ⟨h1, h2⟩ := h x hx ho
  rw [h15, hk] at h1
  exact ⟨h1, fun z e he er => (hM e).symm.trans (h2 z e he er)⟩
theorem lfe_eq {e e1 : Nat} (h : ∀ c, c < 3 → (Y 13).2 e c = (Y 13).2 e1 c) : enx Y e 0 = enx Y e1 0 ∧ elx Y e = elx Y e1 ∧ enx Y e 2 = enx Y e1 2 := by
  unfold elx enx
  rw [h 0 (by decide), h 1 (by decide), h 2 (by decide)]
  exact ⟨rfl, rfl, rfl⟩
theorem nm_of (hJ : JW Y) {q : Nat} (hq : q < (Y 0).1) (h : oc Y q = 2 ∨ oc Y q = 3) : (Y 0).2 q 0 = 2 ∨ (Y 0).2 q 0 = 3 := by
  have e := (okc_n hJ.2.2.2.2.2.1.2 hq).1
  rcases h with z | z
  · left; rw [e, z]; rfl
  · right; rw [e, z]; rfl
/-- PathProver$Machine.load(III)V -/
abbrev mu_m203 : ev_M := (11, none, [], ev_b203)
theorem mu_g203 : mu_good mu_m203 := mu_goodk ev_k203
def F203 : Uf := ⟨[21, 22], [(100, 4), (100, 5), (100, 6), (100, 7), (100, 17)], [(100, 3), (100, 8), (100, 12), (100, 13), (100, 15)], [(100, 3), (100, 8), (100, 12), (100, 13), (100, 15)], [], false⟩
def F203a : Uf := ⟨[21], [(100, 4), (100, 5), (100, 6)], [(100, 3)], [], [], false⟩
def F203b : Uf := ⟨[21], [], [(100, 3)], [], [], false⟩
theorem ld_tail {Φ : mu_R → Prop} (h : um m H) (e : ud m H = U) (hS : spx m U P f) (hj : jv Y U.1) (hJ : JW Y) (hi0 : i0 < (Y 11).1) {kd : Bool} (hr0 : rg Y (im Y i0) kd a0 (a0 + N0)) (hpl : ∀ w, w < (Y 15).1 → (U.1 15).2 w 2 = -1 ∨ ∃ pl, pl < P ∧ (U.1 15).2 w 2 = nI pl) (hnx0 : ∀ x, x < N0 → oc Y (a0 + x) = 3 → NX) (hnxe : ∀ e, e < (Y 13).1 → ∀ x, x < elx Y e → oc Y (enx Y e 0 + x) = 3 → NX)
    (hord : ORD (U.1 14) (Y 13).1 od) (hE : (Y 13).1 ≤ 4001) (hcs : (Y 0).1 ≤ 14000) (hs22 : (U.1 22).1 = 28) (hs3 : (U.2.2.1 100 3).1 ≤ 131072) (hcl : clz (U.2.2.1 100 8).1) (hs12 : (U.2.2.1 100 12).1 ≤ 131072) (hs13 : (U.2.2.1 100 13).1 ≤ 131072) (hs15 : (U.2.2.1 100 15).1 ≤ 131072) (hC1 : 2 * (((Y 13).1 + 2) * 4) + 4 ≤ C 21) (hC2 : C 21 ≤ 8388608) (hΦ : ∀ H1, (um m H1 ∧ ur m C H H1 ∧ uq F203 U (ud m H1) ∧ ∃ S0 K dp W mk M rk, LR (ud m H1) Y a0 N0 i0 od S0 K M rk ∧ LZx (ud m H1) S0 K (sfz Y a0 N0) dp W mk ∧ LC (U.1 15) Y P NX a0 N0 i0 (sfz Y a0 N0) dp mk M ∧ sdz ((ud m H1).1 22) P S0 mk ∧ ∃ wd, (ud m H1).2.1 100 6 = nI wd ∧ wd ≤ (Y 0).1) → Φ (.inl none, H1)) : mu_W (mu_D (d + 4)) mu_m203 (68, [(0, .inr (.inr (some 100))), (1, .inl (nI a0)), (2, .inl (nI (a0 + N0))), (3, .inl (nI i0)), (4, .inr (.inr (some m)))], [], H) Φ := by
  obtain ⟨⟨s4, s10, s11, s12⟩, hk5, ⟨g8, g8b, g18, g18b⟩, ⟨gP, gpd, gsm⟩, hsp, hmo⟩ := id hS
  have hP14 : P ≤ 14 := gP
  have b0 := hJ.2.2.2.2.2.2 0 (by decide)
  have hab := hr0.2.1
  have hsf0 := tp_sf (Y := Y) (a := a0) (n := N0) (fun x hx => (rg_n hr0 (by omega)).1)
  refine mw_go mu_g203 (k := 3) (f1 := (73, [(0, .inr (.inr (some 100))), (1, .inl (nI a0)), (2, .inl (nI (a0 + N0))), (3, .inl (nI i0)), (4, .inr (.inr (some m)))], [.inr (.inr (mu_r H 100 3)), .inr (.inr (some 100))], H)) (C := [mu_is H (some 100) 5]) rfl (show mu_is H (some 100) 5 from (h.1.1.is rfl)) ?_
  rw [(show mu_r H 100 3 = (U.2.2.2.1 100 3) from (ud_q (U := U) (m := m) (P := 100) (j := 3) e rfl))]
  refine mw_go mu_g203 (k := 2) (f1 := (78, [(0, .inr (.inr (some 100))), (1, .inl (nI a0)), (2, .inl (nI (a0 + N0))), (3, .inl (nI i0)), (4, .inr (.inr (some m)))], [.inr (.inr (mu_r H m 13)), .inr (.inr (U.2.2.2.1 100 3)), .inr (.inr (some 100))], H)) (C := [mu_is H (some m) 6]) rfl (show mu_is H (some m) 6 from (show mu_is H (some m) 6 from gi_im h.1.1 h.2)) ?_
  rw [(show mu_r H m 13 = some (m + 27) from (gi_mr h.1.1 h.2 (j := 13) (by decide)).trans (congrArg some (by omega)))]
  refine mw_go mu_g203 (k := 1) (f1 := (81, [(0, .inr (.inr (some 100))), (1, .inl (nI a0)), (2, .inl (nI (a0 + N0))), (3, .inl (nI i0)), (4, .inr (.inr (some m)))], [.inl (mu_i H (m + 27) 2), .inr (.inr (U.2.2.2.1 100 3)), .inr (.inr (some 100))], H)) (C := [mu_is H (some (m + 27)) 10]) rfl (show mu_is H (some (m + 27)) 10 from ((h.1.1.w (md_w13 h.2)).1)) ?_
  rw [(show mu_i H (m + 27) 2 = (nI (Y 13).1) from (h.size e (j := 13) (by decide) rfl).trans (congrArg nI ((congrArg Prod.fst (show U.1 13 = (U.1 13) from rfl)).trans hj.2.1.1)))]
  refine mw_cA (fun _ => rfl) trivial (fit_ok (d := (d + 2)) (N := (Y 13).1) (h.iA e rfl rfl (show U.2.2.2.1 100 3 = (U.2.2.2.1 100 3) from rfl)) (by omega) (by rw [show mu_n H (mu_p (U.2.2.2.1 100 3)) = (U.2.2.1 100 3).1 from (h.nA e rfl rfl (show U.2.2.2.1 100 3 = (U.2.2.2.1 100 3) from rfl) (show (U.2.2.1 100 3).1 = (U.2.2.1 100 3).1 from rfl))]; omega) h.1.1.z) (fun x1 E1 q1 => ?_)
  refine mw_go mu_g203 (k := 1) (f1 := (87, [(0, .inr (.inr (some 100))), (1, .inl (nI a0)), (2, .inl (nI (a0 + N0))), (3, .inl (nI i0)), (4, .inr (.inr (some m)))], [], (mu_sr E1 100 3 x1))) (C := [mu_is E1 (some 100) 5]) rfl (show mu_is E1 (some 100) 5 from fitA_is (h.1.1.is rfl) q1) ?_
  obtain ⟨u1, r1, z1, fl1, fb1⟩ := h.fitA (C := C) (P := 100) (J := 3) (N := (Y 13).1) (Fr := (⟨[], [], [(100, 3)], [(100, 3)], [], false⟩ : Uf)) e rfl rfl rfl ((ud_q (m := m) (P := 100) (j := 3) e rfl).trans (show U.2.2.2.1 100 3 = (U.2.2.2.1 100 3) from rfl)) (by rw [(show (U.2.2.1 100 3).1 = (U.2.2.1 100 3).1 from rfl)]; omega) (by omega) q1 rfl rfl
  generalize (mu_sr E1 100 3 x1) = Q1 at u1 r1 z1 fl1 fb1 ⊢
  have ht1 : ur m C H Q1 := (ur.refl m C H).trans r1
  obtain ⟨V1, d1⟩ : ∃ V, ud m Q1 = V := ⟨_, rfl⟩
  rw [d1] at z1 fl1 fb1
  rw [(show (U.2.2.1 100 3).1 = (U.2.2.1 100 3).1 from rfl)] at fb1
  have qf1 : uq F203 U V1 := (uq.refl F203 U).tr z1 rfl
  refine mw_go mu_g203 (k := 2) (f1 := (91, [(0, .inr (.inr (some 100))), (1, .inl (nI a0)), (2, .inl (nI (a0 + N0))), (3, .inl (nI i0)), (4, .inr (.inr (some m)))], [.inr (.inr (mu_r Q1 100 3))], Q1)) (C := [mu_is Q1 (some 100) 5]) rfl (show mu_is Q1 (some 100) 5 from (u1.1.1.is rfl)) ?_
  rw [(show mu_r Q1 100 3 = (V1.2.2.2.1 100 3) from (ud_q (U := V1) (m := m) (P := 100) (j := 3) d1 rfl))]
  refine mw_go mu_g203 (k := 3) (f1 := (97, [(0, .inr (.inr (some 100))), (1, .inl (nI a0)), (2, .inl (nI (a0 + N0))), (3, .inl (nI i0)), (4, .inr (.inr (some m)))], [.inr (.inr (mu_r Q1 m 13)), .inl (0 : Int32), .inr (.inr (V1.2.2.2.1 100 3))], Q1)) (C := [mu_is Q1 (some m) 6]) rfl (show mu_is Q1 (some m) 6 from (show mu_is Q1 (some m) 6 from gi_im u1.1.1 u1.2)) ?_
  rw [(show mu_r Q1 m 13 = some (m + 27) from (gi_mr u1.1.1 u1.2 (j := 13) (by decide)).trans (congrArg some (by omega)))]
  refine mw_go mu_g203 (k := 1) (f1 := (100, [(0, .inr (.inr (some 100))), (1, .inl (nI a0)), (2, .inl (nI (a0 + N0))), (3, .inl (nI i0)), (4, .inr (.inr (some m)))], [.inl (mu_i Q1 (m + 27) 2), .inl (0 : Int32), .inr (.inr (V1.2.2.2.1 100 3))], Q1)) (C := [mu_is Q1 (some (m + 27)) 10]) rfl (show mu_is Q1 (some (m + 27)) 10 from ((u1.1.1.w (md_w13 u1.2)).1)) ?_
  rw [(show mu_i Q1 (m + 27) 2 = (nI (Y 13).1) from (u1.size d1 (j := 13) (by decide) rfl).trans (congrArg nI ((congrArg Prod.fst (show V1.1 13 = (U.1 13) from (z1.t 13 rfl))).trans hj.2.1.1)))]
  refine mw_go mu_g203 (k := 1) (f1 := (101, [(0, .inr (.inr (some 100))), (1, .inl (nI a0)), (2, .inl (nI (a0 + N0))), (3, .inl (nI i0)), (4, .inr (.inr (some m)))], [.inl (-1 : Int32), .inl (nI (Y 13).1), .inl (0 : Int32), .inr (.inr (V1.2.2.2.1 100 3))], Q1)) (C := []) rfl trivial ?_
  refine mw_cV (fun _ => rfl) trivial ((ar_fillR_ok (d := (d + 2)) (v := (-1 : Int32)) (u1.iA d1 rfl rfl (show V1.2.2.2.1 100 3 = (V1.2.2.2.1 100 3) from rfl)) (show 0 ≤ (Y 13).1 by omega) (by rw [show mu_n Q1 (mu_p (V1.2.2.2.1 100 3)) = (V1.2.2.1 100 3).1 from (u1.nA d1 rfl rfl (show V1.2.2.2.1 100 3 = (V1.2.2.2.1 100 3) from rfl) (show (V1.2.2.1 100 3).1 = (V1.2.2.1 100 3).1 from rfl))]; omega) (by rw [show mu_n Q1 (mu_p (V1.2.2.2.1 100 3)) = (V1.2.2.1 100 3).1 from (u1.nA d1 rfl rfl (show V1.2.2.2.1 100 3 = (V1.2.2.2.1 100 3) from rfl) (show (V1.2.2.1 100 3).1 = (V1.2.2.1 100 3).1 from rfl))]; omega)).imp (fun Hx qx => show um m Hx ∧ ur m C Q1 Hx ∧ ud m Hx = (upF V1 100 3 0 (fun _ => (-1 : Int32)) (((Y 13).1) - 0)) by rw [qx]; exact u1.fA (C := C) d1 rfl rfl (show V1.2.2.2.1 100 3 = (V1.2.2.2.1 100 3) from rfl))) (fun Q2 q2 => ?_)
  obtain ⟨u2, r2, d2⟩ := q2
  have ht2 : ur m C H Q2 := ht1.trans r2
  have qf2 : uq F203 U (upF V1 100 3 0 (fun _ => (-1 : Int32)) (((Y 13).1) - 0)) := qf1.F rfl
  refine mw_go mu_g203 (k := 2) (f1 := (108, [(0, .inr (.inr (some 100))), (1, .inl (nI a0)), (2, .inl (nI (a0 + N0))), (3, .inl (nI i0)), (4, .inr (.inr (some m)))], [.inr (.inr (mu_r Q2 100 1))], Q2)) (C := [mu_is Q2 (some 100) 5]) rfl (show mu_is Q2 (some 100) 5 from (u2.1.1.is rfl)) ?_
  rw [(u2.1.1.r (p := 100) (j := 1) (q := 101) rfl)]
  refine mw_cV (fun _ => rfl) (show mu_is Q2 (some 101) 10 from (u2.1.1.is rfl)) (u2.clearr (C := C) (d := (d + 3)) d2 (j := 21) (Or.inr ⟨by decide, by decide⟩) rfl) (fun Q3 q3 => ?_)
  obtain ⟨u3, r3, d3⟩ := q3
  have ht3 : ur m C H Q3 := ht2.trans r3
  have qf3 : uq F203 U (upT (upF V1 100 3 0 (fun _ => (-1 : Int32)) (((Y 13).1) - 0)) (ac 21 (upF V1 100 3 0 (fun _ => (-1 : Int32)) (((Y 13).1) - 0)).1 0)) := qf2.ac rfl
  refine mw_go mu_g203 (k := 3) (f1 := (116, [(0, .inr (.inr (some 100))), (1, .inl (nI a0)), (2, .inl (nI (a0 + N0))), (3, .inl (nI i0)), (4, .inr (.inr (some m)))], [], (mu_si Q3 100 4 (0 : Int32)))) (C := [mu_is Q3 (some 100) 5]) rfl (show mu_is Q3 (some 100) 5 from (u3.1.1.is rfl)) ?_
  obtain ⟨u4, r4, d4⟩ : um m (mu_si Q3 100 4 (0 : Int32)) ∧ ur m C Q3 (mu_si Q3 100 4 (0 : Int32)) ∧ ud m (mu_si Q3 100 4 (0 : Int32)) = (upI (upT (upF V1 100 3 0 (fun _ => (-1 : Int32)) (((Y 13).1) - 0)) (ac 21 (upF V1 100 3 0 (fun _ => (-1 : Int32)) (((Y 13).1) - 0)).1 0)) 100 4 (0 : Int32)) := u3.sI (C := C) d3 rfl
  generalize (mu_si Q3 100 4 (0 : Int32)) = Q4 at u4 r4 d4 ⊢
  have qf4 : uq F203 U (upI (upT (upF V1 100 3 0 (fun _ => (-1 : Int32)) (((Y 13).1) - 0)) (ac 21 (upF V1 100 3 0 (fun _ => (-1 : Int32)) (((Y 13).1) - 0)).1 0)) 100 4 (0 : Int32)) := qf3.I rfl
  have ht4 : ur m C H Q4 := ht3.trans r4
  refine mw_go mu_g203 (k := 3) (f1 := (121, [(0, .inr (.inr (some 100))), (1, .inl (nI a0)), (2, .inl (nI (a0 + N0))), (3, .inl (nI i0)), (4, .inr (.inr (some m)))], [], (mu_si Q4 100 5 (0 : Int32)))) (C := [mu_is Q4 (some 100) 5]) rfl (show mu_is Q4 (some 100) 5 from (u4.1.1.is rfl)) ?_
  obtain ⟨u5, r5, d5⟩ : um m (mu_si Q4 100 5 (0 : Int32)) ∧ ur m C Q4 (mu_si Q4 100 5 (0 : Int32)) ∧ ud m (mu_si Q4 100 5 (0 : Int32)) = (upI (upI (upT (upF V1 100 3 0 (fun _ => (-1 : Int32)) (((Y 13).1) - 0)) (ac 21 (upF V1 100 3 0 (fun _ => (-1 : Int32)) (((Y 13).1) - 0)).1 0)) 100 4 (0 : Int32)) 100 5 (0 : Int32)) := u4.sI (C := C) d4 rfl
  generalize (mu_si Q4 100 5 (0 : Int32)) = Q5 at u5 r5 d5 ⊢
  have qf5 : uq F203 U (upI (upI (upT (upF V1 100 3 0 (fun _ => (-1 : Int32)) (((Y 13).1) - 0)) (ac 21 (upF V1 100 3 0 (fun _ => (-1 : Int32)) (((Y 13).1) - 0)).1 0)) 100 4 (0 : Int32)) 100 5 (0 : Int32)) := qf4.I rfl
  have ht5 : ur m C H Q5 := ht4.trans r5
  refine mw_go mu_g203 (k := 3) (f1 := (126, [(0, .inr (.inr (some 100))), (1, .inl (nI a0)), (2, .inl (nI (a0 + N0))), (3, .inl (nI i0)), (4, .inr (.inr (some m)))], [], (mu_si Q5 100 6 (0 : Int32)))) (C := [mu_is Q5 (some 100) 5]) rfl (show mu_is Q5 (some 100) 5 from (u5.1.1.is rfl)) ?_
  obtain ⟨u6, r6, d6⟩ : um m (mu_si Q5 100 6 (0 : Int32)) ∧ ur m C Q5 (mu_si Q5 100 6 (0 : Int32)) ∧ ud m (mu_si Q5 100 6 (0 : Int32)) = (upI (upI (upI (upT (upF V1 100 3 0 (fun _ => (-1 : Int32)) (((Y 13).1) - 0)) (ac 21 (upF V1 100 3 0 (fun _ => (-1 : Int32)) (((Y 13).1) - 0)).1 0)) 100 4 (0 : Int32)) 100 5 (0 : Int32)) 100 6 (0 : Int32)) := u5.sI (C := C) d5 rfl
  generalize (mu_si Q5 100 6 (0 : Int32)) = Q6 at u6 r6 d6 ⊢
  have qf6 : uq F203 U (upI (upI (upI (upT (upF V1 100 3 0 (fun _ => (-1 : Int32)) (((Y 13).1) - 0)) (ac 21 (upF V1 100 3 0 (fun _ => (-1 : Int32)) (((Y 13).1) - 0)).1 0)) 100 4 (0 : Int32)) 100 5 (0 : Int32)) 100 6 (0 : Int32)) := qf5.I rfl
  have ht6 : ur m C H Q6 := ht5.trans r6
  refine mw_go mu_g203 (k := 4) (f1 := (130, [(0, .inr (.inr (some 100))), (1, .inl (nI a0)), (2, .inl (nI (a0 + N0))), (3, .inl (nI i0)), (4, .inr (.inr (some m)))], [.inl (nI i0), .inl (nI (a0 + N0)), .inl (nI a0), .inr (.inr (some 100))], Q6)) (C := []) rfl trivial ?_
  refine mw_cI (fun _ => rfl) (show mu_is Q6 (some 100) 5 from (u6.1.1.is rfl)) (mc_note (d := d) (C := C) (U := (upI (upI (upI (upT (upF V1 100 3 0 (fun _ => (-1 : Int32)) (((Y 13).1) - 0)) (ac 21 (upF V1 100 3 0 (fun _ => (-1 : Int32)) (((Y 13).1) - 0)).1 0)) 100 4 (0 : Int32)) 100 5 (0 : Int32)) 100 6 (0 : Int32))) (Y := Y) (P := P) (NX := NX) (a := a0) (N := N0) (i := i0) (c0 := 0) (w0 := 0) u6 d6 (show (upI (upI (upI (upT (upF V1 100 3 0 (fun _ => (-1 : Int32)) (((Y 13).1) - 0)) (ac 21 (upF V1 100 3 0 (fun _ => (-1 : Int32)) (((Y 13).1) - 0)).1 0)) 100 4 (0 : Int32)) 100 5 (0 : Int32)) 100 6 (0 : Int32)).2.2.2.1 100 0 = some 99 from ((z1.r 100 0 rfl).trans hsp)) (show (upI (upI (upI (upT (upF V1 100 3 0 (fun _ => (-1 : Int32)) (((Y 13).1) - 0)) (ac 21 (upF V1 100 3 0 (fun _ => (-1 : Int32)) (((Y 13).1) - 0)).1 0)) 100 4 (0 : Int32)) 100 5 (0 : Int32)) 100 6 (0 : Int32)).2.2.2.1 99 0 = some m from ((z1.r 99 0 rfl).trans hmo)) (jv_to hj (show (upI (upI (upI (upT (upF V1 100 3 0 (fun _ => (-1 : Int32)) (((Y 13).1) - 0)) (ac 21 (upF V1 100 3 0 (fun _ => (-1 : Int32)) (((Y 13).1) - 0)).1 0)) 100 4 (0 : Int32)) 100 5 (0 : Int32)) 100 6 (0 : Int32)).1 0 = U.1 0 from (z1.t 0 rfl)) (show (upI (upI (upI (upT (upF V1 100 3 0 (fun _ => (-1 : Int32)) (((Y 13).1) - 0)) (ac 21 (upF V1 100 3 0 (fun _ => (-1 : Int32)) (((Y 13).1) - 0)).1 0)) 100 4 (0 : Int32)) 100 5 (0 : Int32)) 100 6 (0 : Int32)).1 1 = U.1 1 from (z1.t 1 rfl)) (show (upI (upI (upI (upT (upF V1 100 3 0 (fun _ => (-1 : Int32)) (((Y 13).1) - 0)) (ac 21 (upF V1 100 3 0 (fun _ => (-1 : Int32)) (((Y 13).1) - 0)).1 0)) 100 4 (0 : Int32)) 100 5 (0 : Int32)) 100 6 (0 : Int32)).1 2 = U.1 2 from (z1.t 2 rfl)) (show (upI (upI (upI (upT (upF V1 100 3 0 (fun _ => (-1 : Int32)) (((Y 13).1) - 0)) (ac 21 (upF V1 100 3 0 (fun _ => (-1 : Int32)) (((Y 13).1) - 0)).1 0)) 100 4 (0 : Int32)) 100 5 (0 : Int32)) 100 6 (0 : Int32)).1 3 = U.1 3 from (z1.t 3 rfl)) (show (upI (upI (upI (upT (upF V1 100 3 0 (fun _ => (-1 : Int32)) (((Y 13).1) - 0)) (ac 21 (upF V1 100 3 0 (fun _ => (-1 : Int32)) (((Y 13).1) - 0)).1 0)) 100 4 (0 : Int32)) 100 5 (0 : Int32)) 100 6 (0 : Int32)).1 4 = U.1 4 from (z1.t 4 rfl)) (show (upI (upI (upI (upT (upF V1 100 3 0 (fun _ => (-1 : Int32)) (((Y 13).1) - 0)) (ac 21 (upF V1 100 3 0 (fun _ => (-1 : Int32)) (((Y 13).1) - 0)).1 0)) 100 4 (0 : Int32)) 100 5 (0 : Int32)) 100 6 (0 : Int32)).1 5 = U.1 5 from (z1.t 5 rfl)) (show (upI (upI (upI (upT (upF V1 100 3 0 (fun _ => (-1 : Int32)) (((Y 13).1) - 0)) (ac 21 (upF V1 100 3 0 (fun _ => (-1 : Int32)) (((Y 13).1) - 0)).1 0)) 100 4 (0 : Int32)) 100 5 (0 : Int32)) 100 6 (0 : Int32)).1 6 = U.1 6 from (z1.t 6 rfl)) (show (upI (upI (upI (upT (upF V1 100 3 0 (fun _ => (-1 : Int32)) (((Y 13).1) - 0)) (ac 21 (upF V1 100 3 0 (fun _ => (-1 : Int32)) (((Y 13).1) - 0)).1 0)) 100 4 (0 : Int32)) 100 5 (0 : Int32)) 100 6 (0 : Int32)).1 7 = U.1 7 from (z1.t 7 rfl)) (show (upI (upI (upI (upT (upF V1 100 3 0 (fun _ => (-1 : Int32)) (((Y 13).1) - 0)) (ac 21 (upF V1 100 3 0 (fun _ => (-1 : Int32)) (((Y 13).1) - 0)).1 0)) 100 4 (0 : Int32)) 100 5 (0 : Int32)) 100 6 (0 : Int32)).1 8 = U.1 8 from (z1.t 8 rfl)) (show (upI (upI (upI (upT (upF V1 100 3 0 (fun _ => (-1 : Int32)) (((Y 13).1) - 0)) (ac 21 (upF V1 100 3 0 (fun _ => (-1 : Int32)) (((Y 13).1) - 0)).1 0)) 100 4 (0 : Int32)) 100 5 (0 : Int32)) 100 6 (0 : Int32)).1 9 = U.1 9 from (z1.t 9 rfl)) (show (upI (upI (upI (upT (upF V1 100 3 0 (fun _ => (-1 : Int32)) (((Y 13).1) - 0)) (ac 21 (upF V1 100 3 0 (fun _ => (-1 : Int32)) (((Y 13).1) - 0)).1 0)) 100 4 (0 : Int32)) 100 5 (0 : Int32)) 100 6 (0 : Int32)).1 10 = U.1 10 from (z1.t 10 rfl)) (show (upI (upI (upI (upT (upF V1 100 3 0 (fun _ => (-1 : Int32)) (((Y 13).1) - 0)) (ac 21 (upF V1 100 3 0 (fun _ => (-1 : Int32)) (((Y 13).1) - 0)).1 0)) 100 4 (0 : Int32)) 100 5 (0 : Int32)) 100 6 (0 : Int32)).1 11 = U.1 11 from (z1.t 11 rfl)) (show (upI (upI (upI (upT (upF V1 100 3 0 (fun _ => (-1 : Int32)) (((Y 13).1) - 0)) (ac 21 (upF V1 100 3 0 (fun _ => (-1 : Int32)) (((Y 13).1) - 0)).1 0)) 100 4 (0 : Int32)) 100 5 (0 : Int32)) 100 6 (0 : Int32)).1 12 = U.1 12 from (z1.t 12 rfl)) (show (upI (upI (upI (upT (upF V1 100 3 0 (fun _ => (-1 : Int32)) (((Y 13).1) - 0)) (ac 21 (upF V1 100 3 0 (fun _ => (-1 : Int32)) (((Y 13).1) - 0)).1 0)) 100 4 (0 : Int32)) 100 5 (0 : Int32)) 100 6 (0 : Int32)).1 13 = U.1 13 from (z1.t 13 rfl)) (show (upI (upI (upI (upT (upF V1 100 3 0 (fun _ => (-1 : Int32)) (((Y 13).1) - 0)) (ac 21 (upF V1 100 3 0 (fun _ => (-1 : Int32)) (((Y 13).1) - 0)).1 0)) 100 4 (0 : Int32)) 100 5 (0 : Int32)) 100 6 (0 : Int32)).1 15 = U.1 15 from (z1.t 15 rfl)) (show (upI (upI (upI (upT (upF V1 100 3 0 (fun _ => (-1 : Int32)) (((Y 13).1) - 0)) (ac 21 (upF V1 100 3 0 (fun _ => (-1 : Int32)) (((Y 13).1) - 0)).1 0)) 100 4 (0 : Int32)) 100 5 (0 : Int32)) 100 6 (0 : Int32)).1 16 = U.1 16 from (z1.t 16 rfl)) (show (upI (upI (upI (upT (upF V1 100 3 0 (fun _ => (-1 : Int32)) (((Y 13).1) - 0)) (ac 21 (upF V1 100 3 0 (fun _ => (-1 : Int32)) (((Y 13).1) - 0)).1 0)) 100 4 (0 : Int32)) 100 5 (0 : Int32)) 100 6 (0 : Int32)).1 17 = U.1 17 from (z1.t 17 rfl))) hJ hi0 (Nat.le_trans (Nat.le_refl _) hr0.2.1) (fun x hx => (rg_n hr0 (by omega)).1) (fun x hx ho => hr0.2.2.2 _ (Nat.le_add_right _ _) (by omega) (nm_of hJ (by have := hr0.2.1; omega) ho)) (show ∀ w, w < (Y 15).1 → ((upI (upI (upI (upT (upF V1 100 3 0 (fun _ => (-1 : Int32)) (((Y 13).1) - 0)) (ac 21 (upF V1 100 3 0 (fun _ => (-1 : Int32)) (((Y 13).1) - 0)).1 0)) 100 4 (0 : Int32)) 100 5 (0 : Int32)) 100 6 (0 : Int32)).1 15).2 w 2 = -1 ∨ ∃ pl, pl < P ∧ ((upI (upI (upI (upT (upF V1 100 3 0 (fun _ => (-1 : Int32)) (((Y 13).1) - 0)) (ac 21 (upF V1 100 3 0 (fun _ => (-1 : Int32)) (((Y 13).1) - 0)).1 0)) 100 4 (0 : Int32)) 100 5 (0 : Int32)) 100 6 (0 : Int32)).1 15).2 w 2 = nI pl from by rw [show (upI (upI (upI (upT (upF V1 100 3 0 (fun _ => (-1 : Int32)) (((Y 13).1) - 0)) (ac 21 (upF V1 100 3 0 (fun _ => (-1 : Int32)) (((Y 13).1) - 0)).1 0)) 100 4 (0 : Int32)) 100 5 (0 : Int32)) 100 6 (0 : Int32)).1 15 = U.1 15 from (z1.t 15 rfl)]; exact hpl) hP14 (by rw [(show ((upI (upI (upI (upT (upF V1 100 3 0 (fun _ => (-1 : Int32)) (((Y 13).1) - 0)) (ac 21 (upF V1 100 3 0 (fun _ => (-1 : Int32)) (((Y 13).1) - 0)).1 0)) 100 4 (0 : Int32)) 100 5 (0 : Int32)) 100 6 (0 : Int32)).2.2.1 100 3).1 = (V1.2.2.1 100 3).1 from rfl)]; omega) (by rw [(show ((upI (upI (upI (upT (upF V1 100 3 0 (fun _ => (-1 : Int32)) (((Y 13).1) - 0)) (ac 21 (upF V1 100 3 0 (fun _ => (-1 : Int32)) (((Y 13).1) - 0)).1 0)) 100 4 (0 : Int32)) 100 5 (0 : Int32)) 100 6 (0 : Int32)).2.2.1 100 3).1 = (V1.2.2.1 100 3).1 from rfl)]; omega) (nti_0 (fun e9 he9 => by show (if 0 ≤ e9 ∧ e9 < 0 + ((Y 13).1 - 0) then (-1 : Int32) else _) = -1; rw [if_pos ⟨by omega, by omega⟩]) rfl rfl) hnx0 (show (upI (upI (upI (upT (upF V1 100 3 0 (fun _ => (-1 : Int32)) (((Y 13).1) - 0)) (ac 21 (upF V1 100 3 0 (fun _ => (-1 : Int32)) (((Y 13).1) - 0)).1 0)) 100 4 (0 : Int32)) 100 5 (0 : Int32)) 100 6 (0 : Int32)).2.1 100 5 = nI (0) from rfl) (by omega) (show (upI (upI (upI (upT (upF V1 100 3 0 (fun _ => (-1 : Int32)) (((Y 13).1) - 0)) (ac 21 (upF V1 100 3 0 (fun _ => (-1 : Int32)) (((Y 13).1) - 0)).1 0)) 100 4 (0 : Int32)) 100 5 (0 : Int32)) 100 6 (0 : Int32)).2.1 100 6 = nI 0 from rfl) (by omega) hC1 hC2) (fun x7 Q7 q7 => ?_)
  obtain ⟨u7, r7, z7, ⟨dp7, rfl, hda7⟩, nI7, nM7, nL7, nC7, wd7, ew7, hwd7⟩ := q7
  have ht7 : ur m C H Q7 := ht6.trans r7
  obtain ⟨V7, d7⟩ : ∃ V, ud m Q7 = V := ⟨_, rfl⟩
  rw [d7] at z7 nI7 nM7 nL7 nC7 ew7
  have qf7 : uq F203 U V7 := qf6.tr z7 rfl
  have hdb7 : dp7 ≤ (Y 0).1 + 1 := by have := hr0.2.1; omega
  refine mw_go mu_g203 (k := 3) (f1 := (138, [(7, .inl (0 : Int32)), (6, .inl (nI dp7)), (0, .inr (.inr (some 100))), (1, .inl (nI a0)), (2, .inl (nI (a0 + N0))), (3, .inl (nI i0)), (4, .inr (.inr (some m)))], [], Q7)) (C := []) rfl trivial ?_
  show mu_W _ _ (138, [(7, .inl (nI 0)), (6, .inl (nI dp7)), (0, .inr (.inr (some 100))), (1, .inl (nI a0)), (2, .inl (nI (a0 + N0))), (3, .inl (nI i0)), (4, .inr (.inr (some m)))], [], Q7) _
  refine mw_sub (L' := [(7, .inl (nI 0)), (6, .inl (nI dp7)), (0, .inr (.inr (some 100))), (1, .inl (nI a0)), (2, .inl (nI (a0 + N0))), (3, .inl (nI i0)), (4, .inr (.inr (some m)))]) (by simp) ?_
  refine mw_down (α := Nat × Nat × mu_H) (fun zs => (138, [(7, .inl (nI zs.1)), (6, .inl (nI zs.2.1)), (0, .inr (.inr (some 100))), (1, .inl (nI a0)), (2, .inl (nI (a0 + N0))), (3, .inl (nI i0)), (4, .inr (.inr (some m)))], [], zs.2.2)) (fun zs => (Y 13).1 - zs.1) (fun zs => um m zs.2.2 ∧ ur m C H zs.2.2 ∧ (uq F203a V7 (ud m zs.2.2)) ∧ (zs.1 ≤ ((ud m zs.2.2).1 21).1) ∧ (nti (ud m zs.2.2) Y P NX) ∧ (lfo (ud m zs.2.2) Y P a0 N0 i0) ∧ (∀ r, r < zs.1 → ∀ e, e < (Y 13).1 → (∀ c, c < 3 → ((ud m zs.2.2).1 21).2 r c = (Y 13).2 e c) → lfe (ud m zs.2.2) Y P e ∧ ∀ x, x ≤ elx Y e → tpz Y (enx Y e 0) x ≤ zs.2.1) ∧ (1 ≤ zs.2.1 ∧ zs.2.1 ≤ (Y 0).1 + 1 ∧ ∀ x, x ≤ N0 → tpz Y a0 x ≤ zs.2.1) ∧ ((ud m zs.2.2).2.1 100 5 = nI (sfz Y a0 N0)) ∧ (∃ wd, (ud m zs.2.2).2.1 100 6 = nI wd ∧ wd ≤ (Y 0).1)) (fun zs hza iha => ?_) (0, dp7, Q7) ⟨u7, ht7, (show uq F203a V7 (ud m Q7) from by rw [d7]; exact uq.refl _ _), (show 0 ≤ ((ud m Q7).1 21).1 from by rw [d7]; exact (Nat.zero_le _)), (show nti (ud m Q7) Y P NX from by rw [d7]; exact nI7), (show lfo (ud m Q7) Y P a0 N0 i0 from by rw [d7]; exact nL7), (show ∀ r, r < 0 → ∀ e, e < (Y 13).1 → (∀ c, c < 3 → ((ud m Q7).1 21).2 r c = (Y 13).2 e c) → lfe (ud m Q7) Y P e ∧ ∀ x, x ≤ elx Y e → tpz Y (enx Y e 0) x ≤ dp7 from by rw [d7]; exact (fun r hr => absurd hr (Nat.not_lt_zero _))), (show 1 ≤ dp7 ∧ dp7 ≤ (Y 0).1 + 1 ∧ ∀ x, x ≤ N0 → tpz Y a0 x ≤ dp7 from ⟨hda7.1, hdb7, hda7.2.2⟩), (show (ud m Q7).2.1 100 5 = nI (sfz Y a0 N0) from by rw [d7]; exact (nC7.trans (congrArg nI (Nat.zero_add _)))), (show ∃ wd, (ud m Q7).2.1 100 6 = nI wd ∧ wd ≤ (Y 0).1 from by rw [d7]; exact ⟨wd7, ew7, by have := hr0.2.1; omega⟩)⟩
  obtain ⟨k, dp, Hsa⟩ := zs
  obtain ⟨ua, hta, da, hk, hI, hL, hR, hD, hC, hWd⟩ := hza
  have ua : um m Hsa := ua
  have hta : ur m C H Hsa := hta
  have zza : uq F203a V7 (ud m Hsa) := da
  have hk : k ≤ ((ud m Hsa).1 21).1 := hk
  have hI : nti (ud m Hsa) Y P NX := hI
  have hL : lfo (ud m Hsa) Y P a0 N0 i0 := hL
  have hR : ∀ r, r < k → ∀ e, e < (Y 13).1 → (∀ c, c < 3 → ((ud m Hsa).1 21).2 r c = (Y 13).2 e c) → lfe (ud m Hsa) Y P e ∧ ∀ x, x ≤ elx Y e → tpz Y (enx Y e 0) x ≤ dp := hR
  have hD : 1 ≤ dp ∧ dp ≤ (Y 0).1 + 1 ∧ ∀ x, x ≤ N0 → tpz Y a0 x ≤ dp := hD
  have hC : (ud m Hsa).2.1 100 5 = nI (sfz Y a0 N0) := hC
  have hWd : ∃ wd, (ud m Hsa).2.1 100 6 = nI wd ∧ wd ≤ (Y 0).1 := hWd
  obtain ⟨Va, da⟩ : ∃ V, ud m Hsa = V := ⟨_, rfl⟩
  rw [da] at zza hk hI hL hR hC hWd
  have qfa : uq F203 U Va := qf7.tr zza rfl
  show mu_W _ _ (138, [(7, .inl (nI k)), (6, .inl (nI dp)), (0, .inr (.inr (some 100))), (1, .inl (nI a0)), (2, .inl (nI (a0 + N0))), (3, .inl (nI i0)), (4, .inr (.inr (some m)))], [], Hsa) _
  obtain ⟨wd, ew, hwd⟩ := hWd
  have hsz : (Va.1 21).1 ≤ (Y 13).1 := by rw [hI.2.1]; exact cmk_le
  refine mw_go mu_g203 (k := 3) (f1 := (144, [(7, .inl (nI k)), (6, .inl (nI dp)), (0, .inr (.inr (some 100))), (1, .inl (nI a0)), (2, .inl (nI (a0 + N0))), (3, .inl (nI i0)), (4, .inr (.inr (some m)))], [.inr (.inr (mu_r Hsa 100 1)), .inl (nI k)], Hsa)) (C := [mu_is Hsa (some 100) 5]) rfl (show mu_is Hsa (some 100) 5 from (ua.1.1.is rfl)) ?_
  rw [(ua.1.1.r (p := 100) (j := 1) (q := 101) rfl)]
  refine mw_go mu_g203 (k := 1) (f1 := (147, [(7, .inl (nI k)), (6, .inl (nI dp)), (0, .inr (.inr (some 100))), (1, .inl (nI a0)), (2, .inl (nI (a0 + N0))), (3, .inl (nI i0)), (4, .inr (.inr (some m)))], [.inl (mu_i Hsa 101 2), .inl (nI k)], Hsa)) (C := [mu_is Hsa (some 101) 10]) rfl (show mu_is Hsa (some 101) 10 from (ua.1.1.is rfl)) ?_
  rw [(show mu_i Hsa 101 2 = (nI (Va.1 21).1) from (ua.size da (j := 21) (by decide) rfl).trans (congrArg (fun z => nI z.1) (show Va.1 21 = (Va.1 21) from rfl)))]
  refine mw_if (P := (nI k) < (nI (Va.1 21).1)) (a := 150) (b := 197) (fun _ => rfl) trivial (fun h8 => ?_) (fun h8 => ?_)
  · -- 150: (nI k) < (nI (Va.1 21).1)
    have nh8 : k < ((Va.1 21).1) := (nI_ltI (by omega) (by omega)).mp (show nI k < nI ((Va.1 21).1) from h8)
    obtain ⟨e1, he1, hm1, hrow⟩ := hI.2.2.1 k (by omega)
    have ek := en_ok hJ he1
    refine mw_go mu_g203 (k := 4) (f1 := (157, [(7, .inl (nI k)), (6, .inl (nI dp)), (0, .inr (.inr (some 100))), (1, .inl (nI a0)), (2, .inl (nI (a0 + N0))), (3, .inl (nI i0)), (4, .inr (.inr (some m)))], [.inr (.inr (mu_r Hsa 100 1)), .inr (.inr (some 100)), .inl (nI dp)], Hsa)) (C := [mu_is Hsa (some 100) 5]) rfl (show mu_is Hsa (some 100) 5 from (ua.1.1.is rfl)) ?_
    rw [(ua.1.1.r (p := 100) (j := 1) (q := 101) rfl)]
    refine mw_go mu_g203 (k := 2) (f1 := (160, [(7, .inl (nI k)), (6, .inl (nI dp)), (0, .inr (.inr (some 100))), (1, .inl (nI a0)), (2, .inl (nI (a0 + N0))), (3, .inl (nI i0)), (4, .inr (.inr (some m)))], [.inl (0 : Int32), .inl (nI k), .inr (.inr (some 101)), .inr (.inr (some 100)), .inl (nI dp)], Hsa)) (C := []) rfl trivial ?_
    refine mw_cIe (fun _ => rfl) (show mu_is Hsa (some 101) 10 from (ua.1.1.is rfl)) (ua.getr (d := (d + 3)) da (j := 21) (by decide) rfl (nI k) (c := 0) (by decide)) ?_
    rw [show (tget (Va.1 21) (nI k) 0) = (nI (enx Y e1 0)) from ((congrArg (fun z => tget z (nI k) 0) (show Va.1 21 = (Va.1 21) from rfl)).trans (tget_nI (by omega))).trans ((hrow 0 (by decide)).trans ek.1)]
    refine mw_go mu_g203 (k := 2) (f1 := (167, [(7, .inl (nI k)), (6, .inl (nI dp)), (0, .inr (.inr (some 100))), (1, .inl (nI a0)), (2, .inl (nI (a0 + N0))), (3, .inl (nI i0)), (4, .inr (.inr (some m)))], [.inr (.inr (mu_r Hsa 100 1)), .inl (nI (enx Y e1 0)), .inr (.inr (some 100)), .inl (nI dp)], Hsa)) (C := [mu_is Hsa (some 100) 5]) rfl (show mu_is Hsa (some 100) 5 from (ua.1.1.is rfl)) ?_
    rw [(ua.1.1.r (p := 100) (j := 1) (q := 101) rfl)]
    refine mw_go mu_g203 (k := 2) (f1 := (170, [(7, .inl (nI k)), (6, .inl (nI dp)), (0, .inr (.inr (some 100))), (1, .inl (nI a0)), (2, .inl (nI (a0 + N0))), (3, .inl (nI i0)), (4, .inr (.inr (some m)))], [.inl (1 : Int32), .inl (nI k), .inr (.inr (some 101)), .inl (nI (enx Y e1 0)), .inr (.inr (some 100)), .inl (nI dp)], Hsa)) (C := []) rfl trivial ?_
    refine mw_cIe (fun _ => rfl) (show mu_is Hsa (some 101) 10 from (ua.1.1.is rfl)) (ua.getr (d := (d + 3)) da (j := 21) (by decide) rfl (nI k) (c := 1) (by decide)) ?_
    rw [show (tget (Va.1 21) (nI k) 1) = (nI (enx Y e1 0 + elx Y e1)) from ((congrArg (fun z => tget z (nI k) 1) (show Va.1 21 = (Va.1 21) from rfl)).trans (tget_nI (by omega))).trans ((hrow 1 (by decide)).trans ek.2.1)]
    refine mw_go mu_g203 (k := 2) (f1 := (177, [(7, .inl (nI k)), (6, .inl (nI dp)), (0, .inr (.inr (some 100))), (1, .inl (nI a0)), (2, .inl (nI (a0 + N0))), (3, .inl (nI i0)), (4, .inr (.inr (some m)))], [.inr (.inr (mu_r Hsa 100 1)), .inl (nI (enx Y e1 0 + elx Y e1)), .inl (nI (enx Y e1 0)), .inr (.inr (some 100)), .inl (nI dp)], Hsa)) (C := [mu_is Hsa (some 100) 5]) rfl (show mu_is Hsa (some 100) 5 from (ua.1.1.is rfl)) ?_
    rw [(ua.1.1.r (p := 100) (j := 1) (q := 101) rfl)]
    refine mw_go mu_g203 (k := 2) (f1 := (180, [(7, .inl (nI k)), (6, .inl (nI dp)), (0, .inr (.inr (some 100))), (1, .inl (nI a0)), (2, .inl (nI (a0 + N0))), (3, .inl (nI i0)), (4, .inr (.inr (some m)))], [.inl (2 : Int32), .inl (nI k), .inr (.inr (some 101)), .inl (nI (enx Y e1 0 + elx Y e1)), .inl (nI (enx Y e1 0)), .inr (.inr (some 100)), .inl (nI dp)], Hsa)) (C := []) rfl trivial ?_
    refine mw_cIe (fun _ => rfl) (show mu_is Hsa (some 101) 10 from (ua.1.1.is rfl)) (ua.getr (d := (d + 3)) da (j := 21) (by decide) rfl (nI k) (c := 2) (by decide)) ?_
    rw [show (tget (Va.1 21) (nI k) 2) = (nI (enx Y e1 2)) from ((congrArg (fun z => tget z (nI k) 2) (show Va.1 21 = (Va.1 21) from rfl)).trans (tget_nI (by omega))).trans ((hrow 2 (by decide)).trans ek.2.2.1)]
    refine mw_cI (fun _ => rfl) (show mu_is Hsa (some 100) 5 from (ua.1.1.is rfl)) (mc_note (d := d) (C := C) (U := Va) (Y := Y) (P := P) (NX := NX) (a := (enx Y e1 0)) (N := (elx Y e1)) (i := (enx Y e1 2)) (c0 := sfz Y a0 N0) (w0 := wd) ua da (show Va.2.2.2.1 100 0 = some 99 from ((zza.r 100 0 rfl).trans ((z7.r 100 0 rfl).trans ((z1.r 100 0 rfl).trans hsp)))) (show Va.2.2.2.1 99 0 = some m from ((zza.r 99 0 rfl).trans ((z7.r 99 0 rfl).trans ((z1.r 99 0 rfl).trans hmo)))) (jv_to hj (show Va.1 0 = U.1 0 from ((zza.t 0 rfl).trans ((z7.t 0 rfl).trans (z1.t 0 rfl)))) (show Va.1 1 = U.1 1 from ((zza.t 1 rfl).trans ((z7.t 1 rfl).trans (z1.t 1 rfl)))) (show Va.1 2 = U.1 2 from ((zza.t 2 rfl).trans ((z7.t 2 rfl).trans (z1.t 2 rfl)))) (show Va.1 3 = U.1 3 from ((zza.t 3 rfl).trans ((z7.t 3 rfl).trans (z1.t 3 rfl)))) (show Va.1 4 = U.1 4 from ((zza.t 4 rfl).trans ((z7.t 4 rfl).trans (z1.t 4 rfl)))) (show Va.1 5 = U.1 5 from ((zza.t 5 rfl).trans ((z7.t 5 rfl).trans (z1.t 5 rfl)))) (show Va.1 6 = U.1 6 from ((zza.t 6 rfl).trans ((z7.t 6 rfl).trans (z1.t 6 rfl)))) (show Va.1 7 = U.1 7 from ((zza.t 7 rfl).trans ((z7.t 7 rfl).trans (z1.t 7 rfl)))) (show Va.1 8 = U.1 8 from ((zza.t 8 rfl).trans ((z7.t 8 rfl).trans (z1.t 8 rfl)))) (show Va.1 9 = U.1 9 from ((zza.t 9 rfl).trans ((z7.t 9 rfl).trans (z1.t 9 rfl)))) (show Va.1 10 = U.1 10 from ((zza.t 10 rfl).trans ((z7.t 10 rfl).trans (z1.t 10 rfl)))) (show Va.1 11 = U.1 11 from ((zza.t 11 rfl).trans ((z7.t 11 rfl).trans (z1.t 11 rfl)))) (show Va.1 12 = U.1 12 from ((zza.t 12 rfl).trans ((z7.t 12 rfl).trans (z1.t 12 rfl)))) (show Va.1 13 = U.1 13 from ((zza.t 13 rfl).trans ((z7.t 13 rfl).trans (z1.t 13 rfl)))) (show Va.1 15 = U.1 15 from ((zza.t 15 rfl).trans ((z7.t 15 rfl).trans (z1.t 15 rfl)))) (show Va.1 16 = U.1 16 from ((zza.t 16 rfl).trans ((z7.t 16 rfl).trans (z1.t 16 rfl)))) (show Va.1 17 = U.1 17 from ((zza.t 17 rfl).trans ((z7.t 17 rfl).trans (z1.t 17 rfl))))) hJ ek.2.2.2.1 (Nat.le_trans (Nat.le_refl _) ek.2.2.2.2.2.1) (fun x hx => (rg_n ek.2.2.2.2 (by omega)).1) (fun x hx ho => ek.2.2.2.2.2.2.2 _ (Nat.le_add_right _ _) (by omega) (nm_of hJ (by have := ek.2.2.2.2.2.1; omega) ho)) (show ∀ w, w < (Y 15).1 → (Va.1 15).2 w 2 = -1 ∨ ∃ pl, pl < P ∧ (Va.1 15).2 w 2 = nI pl from by rw [show Va.1 15 = U.1 15 from ((zza.t 15 rfl).trans ((z7.t 15 rfl).trans (z1.t 15 rfl)))]; exact hpl) hP14 (by rw [(show (Va.2.2.1 100 3).1 = (V1.2.2.1 100 3).1 from ((zza.n 100 3 rfl).trans (z7.n 100 3 rfl)))]; omega) (by rw [(show (Va.2.2.1 100 3).1 = (V1.2.2.1 100 3).1 from ((zza.n 100 3 rfl).trans (z7.n 100 3 rfl)))]; omega) hI (fun x hx h3 => hnxe e1 he1 x hx h3) (show Va.2.1 100 5 = nI (sfz Y a0 N0) from hC) (by omega) (show Va.2.1 100 6 = nI wd from ew) (by omega) hC1 hC2) (fun x12 Q12 q12 => ?_)
    obtain ⟨u12, r12, z12, ⟨dp12, rfl, hda12⟩, nI12, nM12, nL12, nC12, wd12, ew12, hwd12⟩ := q12
    have ht12 : ur m C H Q12 := hta.trans r12
    obtain ⟨V12, d12⟩ : ∃ V, ud m Q12 = V := ⟨_, rfl⟩
    rw [d12] at z12 nI12 nM12 nL12 nC12 ew12
    have qf12 : uq F203 U V12 := qfa.tr z12 rfl
    have hdb12 : dp12 ≤ (Y 0).1 + 1 := by have := ek.2.2.2.2.2.1; omega
    refine mw_cIe (fun _ => rfl) trivial (mu_max_ok (d := (d + 3)) (nI dp) (nI dp12)) ?_
    rw [show (mu_max (nI dp) (nI dp12)) = nI (max dp dp12) from mu_max_n (a := dp) (b := dp12) (by omega) (by omega)]
    refine mw_go mu_g203 (k := 2) (f1 := (194, [(7, .inl ((nI k) + 1)), (6, .inl (nI (max dp dp12))), (0, .inr (.inr (some 100))), (1, .inl (nI a0)), (2, .inl (nI (a0 + N0))), (3, .inl (nI i0)), (4, .inr (.inr (some m)))], [], Q12)) (C := []) rfl trivial ?_
    rw [(show ((nI k) + 1) = (nI (k + 1)) from (nI_add k 1))]
    refine mw_go mu_g203 (k := 1) (f1 := (138, [(7, .inl (nI (k + 1))), (6, .inl (nI (max dp dp12))), (0, .inr (.inr (some 100))), (1, .inl (nI a0)), (2, .inl (nI (a0 + N0))), (3, .inl (nI i0)), (4, .inr (.inr (some m)))], [], Q12)) (C := []) rfl trivial ?_
    exact mw_sub (by simp) (iha (k + 1, max dp dp12, Q12) ⟨u12, ht12, (show uq F203a V7 (ud m Q12) from by rw [d12]; exact (zza.tr z12 rfl)), (show (k + 1) ≤ ((ud m Q12).1 21).1 from by rw [d12]; exact (by have := nM12.2.2.1; omega)), (show nti (ud m Q12) Y P NX from by rw [d12]; exact nI12), (show lfo (ud m Q12) Y P a0 N0 i0 from by rw [d12]; exact (hL.up hP14 nM12 (z12.t 15 rfl))), (show ∀ r, r < (k + 1) → ∀ e, e < (Y 13).1 → (∀ c, c < 3 → ((ud m Q12).1 21).2 r c = (Y 13).2 e c) → lfe (ud m Q12) Y P e ∧ ∀ x, x ≤ elx Y e → tpz Y (enx Y e 0) x ≤ (max dp dp12) from by rw [d12]; exact (fun r hr e he hc => by by_cases er : r = k; (subst er; obtain ⟨q1, q2, q3⟩ := lfe_eq (fun c hc2 => (hc c hc2).symm.trans ((nM12.2.2.2 r c (by omega) hc2).trans (hrow c hc2))); unfold lfe; rw [q1, q2, q3]; exact ⟨nL12, fun x hx => Nat.le_trans (hda12.2.2 x hx) (Nat.le_max_right _ _)⟩); (obtain ⟨q1, q2⟩ := hR r (by omega) e he (fun c hc2 => ((nM12.2.2.2 r c (by omega) hc2).symm.trans (hc c hc2))); exact ⟨q1.up hP14 nM12 (z12.t 15 rfl), fun x hx => Nat.le_trans (q2 x hx) (Nat.le_max_left _ _)⟩))), (show 1 ≤ (max dp dp12) ∧ (max dp dp12) ≤ (Y 0).1 + 1 ∧ ∀ x, x ≤ N0 → tpz Y a0 x ≤ (max dp dp12) from ⟨by omega, by omega, fun x hx => Nat.le_trans (hD.2.2 x hx) (Nat.le_max_left _ _)⟩), (show (ud m Q12).2.1 100 5 = nI (sfz Y a0 N0) from by rw [d12]; exact (nC12.trans (congrArg nI (by rw [sfz_0 (fun x hx => (rg_n ek.2.2.2.2 (by omega)).2 rfl)]; rfl)))), (show ∃ wd, (ud m Q12).2.1 100 6 = nI wd ∧ wd ≤ (Y 0).1 from by rw [d12]; exact ⟨wd12, ew12, by have := ek.2.2.2.2.2.1; omega⟩)⟩ (by show (Y 13).1 - (k + 1) < (Y 13).1 - k; omega))
  · -- 197: not (nI k) < (nI (Va.1 21).1)
    have nh8 : ¬ k < ((Va.1 21).1) := fun z => h8 (show nI k < nI ((Va.1 21).1) from (nI_ltI (by omega) (by omega)).mpr z)
    have hkE : k = (Va.1 21).1 := by omega
    have hA : ∀ e, e < (Y 13).1 → (Va.2.2.1 100 3).2 e = 0 → lfe Va Y P e ∧ ∀ x, x ≤ elx Y e → tpz Y (enx Y e 0) x ≤ dp := fun e he hz => by obtain ⟨r, hr, hc⟩ := hI.2.2.2.1 e he hz; exact hR r (by omega) e he hc
    refine mw_go mu_g203 (k := 1) (f1 := (198, [(7, .inl (nI k)), (6, .inl (nI dp)), (0, .inr (.inr (some 100))), (1, .inl (nI a0)), (2, .inl (nI (a0 + N0))), (3, .inl (nI i0)), (4, .inr (.inr (some m)))], [.inr (.inr (some 100))], Hsa)) (C := []) rfl trivial ?_
    obtain ⟨S0, hS0⟩ : ∃ S0, S0 = bcn (Va.2.1 100 4) 28 := ⟨_, rfl⟩
    refine mw_cI (fun _ => rfl) (show mu_is Hsa (some 100) 5 from (ua.1.1.is rfl)) (mc_sides2 (d := (d + 2)) (C := C) (P := P) (mk := Va.2.1 100 4) ua da (show Va.2.1 100 4 = Va.2.1 100 4 from rfl) (by rw [show Va.1 22 = U.1 22 from ((zza.t 22 rfl).trans ((z7.t 22 rfl).trans (z1.t 22 rfl)))]; exact hs22) (fun k hk hb => (hI.2.2.2.2 k (by omega) hb).2.1) hS0) (fun x14 Q14 q14 => ?_)
    obtain ⟨rfl, u14, r14, z14, hsd⟩ := q14
    have ht14 : ur m C H Q14 := hta.trans r14
    obtain ⟨V14, d14⟩ : ∃ V, ud m Q14 = V := ⟨_, rfl⟩
    rw [d14] at z14 hsd
    have qf14 : uq F203 U V14 := qfa.tr z14 rfl
    have hS0b : S0 ≤ 28 := by rw [hS0]; exact bcn_le 28
    refine mw_go mu_g203 (k := 3) (f1 := (207, [(7, .inl (nI S0)), (6, .inl (nI dp)), (0, .inr (.inr (some 100))), (1, .inl (nI a0)), (2, .inl (nI (a0 + N0))), (3, .inl (nI i0)), (4, .inr (.inr (some m)))], [.inr (.inr (mu_r Q14 100 1))], Q14)) (C := [mu_is Q14 (some 100) 5]) rfl (show mu_is Q14 (some 100) 5 from (u14.1.1.is rfl)) ?_
    rw [(u14.1.1.r (p := 100) (j := 1) (q := 101) rfl)]
    refine mw_go mu_g203 (k := 1) (f1 := (210, [(7, .inl (nI S0)), (6, .inl (nI dp)), (0, .inr (.inr (some 100))), (1, .inl (nI a0)), (2, .inl (nI (a0 + N0))), (3, .inl (nI i0)), (4, .inr (.inr (some m)))], [.inl (mu_i Q14 101 2)], Q14)) (C := [mu_is Q14 (some 101) 10]) rfl (show mu_is Q14 (some 101) 10 from (u14.1.1.is rfl)) ?_
    rw [(show mu_i Q14 101 2 = (nI (Va.1 21).1) from (u14.size d14 (j := 21) (by decide) rfl).trans (congrArg (fun z => nI z.1) (show V14.1 21 = (Va.1 21) from (z14.t 21 rfl))))]
    refine mw_go mu_g203 (k := 3) (f1 := (216, [(8, .inl (nI (Va.1 21).1)), (7, .inl (nI S0)), (6, .inl (nI dp)), (0, .inr (.inr (some 100))), (1, .inl (nI a0)), (2, .inl (nI (a0 + N0))), (3, .inl (nI i0)), (4, .inr (.inr (some m)))], [.inr (.inr (mu_r Q14 100 1))], Q14)) (C := [mu_is Q14 (some 100) 5]) rfl (show mu_is Q14 (some 100) 5 from (u14.1.1.is rfl)) ?_
    rw [(u14.1.1.r (p := 100) (j := 1) (q := 101) rfl)]
    refine mw_cV (fun _ => rfl) (show mu_is Q14 (some 101) 10 from (u14.1.1.is rfl)) (u14.clearr (C := C) (d := (d + 3)) d14 (j := 21) (Or.inr ⟨by decide, by decide⟩) rfl) (fun Q15 q15 => ?_)
    obtain ⟨u15, r15, d15⟩ := q15
    have ht15 : ur m C H Q15 := ht14.trans r15
    have qf15 : uq F203 U (upT V14 (ac 21 V14.1 0)) := qf14.ac rfl
    refine mw_go mu_g203 (k := 2) (f1 := (222, [(9, .inl (0 : Int32)), (8, .inl (nI (Va.1 21).1)), (7, .inl (nI S0)), (6, .inl (nI dp)), (0, .inr (.inr (some 100))), (1, .inl (nI a0)), (2, .inl (nI (a0 + N0))), (3, .inl (nI i0)), (4, .inr (.inr (some m)))], [], Q15)) (C := []) rfl trivial ?_
    obtain ⟨Mk, hMk⟩ : ∃ Mk : Nat → Int32, Mk = (Va.2.2.1 100 3).2 := ⟨_, rfl⟩
    have hMe : ∀ e, (Va.2.2.1 100 3).2 e = Mk e := fun e => by rw [hMk]
    show mu_W _ _ (222, [(9, .inl (nI 0)), (8, .inl (nI (Va.1 21).1)), (7, .inl (nI S0)), (6, .inl (nI dp)), (0, .inr (.inr (some 100))), (1, .inl (nI a0)), (2, .inl (nI (a0 + N0))), (3, .inl (nI i0)), (4, .inr (.inr (some m)))], [], Q15) _
    refine mw_sub (L' := [(9, .inl (nI 0)), (7, .inl (nI S0)), (0, .inr (.inr (some 100))), (1, .inl (nI a0)), (2, .inl (nI (a0 + N0))), (3, .inl (nI i0)), (4, .inr (.inr (some m))), (6, .inl (nI dp)), (8, .inl (nI (Va.1 21).1))]) (by simp) ?_
    refine mw_down (α := Nat × Nat × mu_H) (fun zs => (222, [(9, .inl (nI zs.1)), (7, .inl (nI zs.2.1)), (0, .inr (.inr (some 100))), (1, .inl (nI a0)), (2, .inl (nI (a0 + N0))), (3, .inl (nI i0)), (4, .inr (.inr (some m))), (6, .inl (nI dp)), (8, .inl (nI (Va.1 21).1))], [], zs.2.2)) (fun zs => (Y 13).1 - zs.1) (fun zs => um m zs.2.2 ∧ ur m C H zs.2.2 ∧ (uq F203b (upT V14 (ac 21 V14.1 0)) (ud m zs.2.2)) ∧ (zs.1 ≤ (Y 13).1) ∧ (ldi (ud m zs.2.2) Y Mk od S0 zs.1) ∧ (rmk Mk od zs.1 (Y 13).1 + mcn Mk od zs.1 = (Va.1 21).1) ∧ (zs.2.1 = S0 + mcn Mk od zs.1)) (fun zs hzb ihb => ?_) (0, S0, Q15) ⟨u15, ht15, (show uq F203b (upT V14 (ac 21 V14.1 0)) (ud m Q15) from by rw [d15]; exact uq.refl _ _), (show 0 ≤ (Y 13).1 from (by omega)), (show ldi (ud m Q15) Y Mk od S0 0 from by rw [d15]; exact (ldi_0 rfl (fun e => (congrArg (fun z => z.2 e) (show (upT V14 (ac 21 V14.1 0)).2.2.1 100 3 = Va.2.2.1 100 3 from (z14.a 100 3 rfl))).trans (hMe e)))), (show rmk Mk od 0 (Y 13).1 + mcn Mk od 0 = (Va.1 21).1 from (by rw [rmk_0]; show sm _ 0 _ + 0 = _; rw [Nat.add_zero, hMk]; exact hI.2.1.symm)), (show S0 = S0 + mcn Mk od 0 from rfl)⟩
    obtain ⟨k, sl, Hsb⟩ := zs
    obtain ⟨ub, htb, db, hk2, hX, hq2, hsl⟩ := hzb
    have ub : um m Hsb := ub
    have htb : ur m C H Hsb := htb
    have zzb : uq F203b (upT V14 (ac 21 V14.1 0)) (ud m Hsb) := db
    have hk2 : k ≤ (Y 13).1 := hk2
    have hX : ldi (ud m Hsb) Y Mk od S0 k := hX
    have hq2 : rmk Mk od k (Y 13).1 + mcn Mk od k = (Va.1 21).1 := hq2
    have hsl : sl = S0 + mcn Mk od k := hsl
    obtain ⟨Vb, db⟩ : ∃ V, ud m Hsb = V := ⟨_, rfl⟩
    rw [db] at zzb hX
    have qfb : uq F203 U Vb := qf15.tr zzb rfl
    show mu_W _ _ (222, [(9, .inl (nI k)), (7, .inl (nI sl)), (0, .inr (.inr (some 100))), (1, .inl (nI a0)), (2, .inl (nI (a0 + N0))), (3, .inl (nI i0)), (4, .inr (.inr (some m))), (6, .inl (nI dp)), (8, .inl (nI (Va.1 21).1))], [], Hsb) _
    have hX1 : (Vb.1 21).1 = mcn Mk od k := hX.1
    have hmE : mcn Mk od k ≤ (Va.1 21).1 := by omega
    refine mw_go mu_g203 (k := 3) (f1 := (229, [(9, .inl (nI k)), (7, .inl (nI sl)), (0, .inr (.inr (some 100))), (1, .inl (nI a0)), (2, .inl (nI (a0 + N0))), (3, .inl (nI i0)), (4, .inr (.inr (some m))), (6, .inl (nI dp)), (8, .inl (nI (Va.1 21).1))], [.inr (.inr (mu_r Hsb m 14)), .inl (nI k)], Hsb)) (C := [mu_is Hsb (some m) 6]) rfl (show mu_is Hsb (some m) 6 from (show mu_is Hsb (some m) 6 from gi_im ub.1.1 ub.2)) ?_
    rw [(show mu_r Hsb m 14 = some (m + 29) from (gi_mr ub.1.1 ub.2 (j := 14) (by decide)).trans (congrArg some (by omega)))]
    refine mw_go mu_g203 (k := 1) (f1 := (232, [(9, .inl (nI k)), (7, .inl (nI sl)), (0, .inr (.inr (some 100))), (1, .inl (nI a0)), (2, .inl (nI (a0 + N0))), (3, .inl (nI i0)), (4, .inr (.inr (some m))), (6, .inl (nI dp)), (8, .inl (nI (Va.1 21).1))], [.inl (mu_i Hsb (m + 29) 2), .inl (nI k)], Hsb)) (C := [mu_is Hsb (some (m + 29)) 10]) rfl (show mu_is Hsb (some (m + 29)) 10 from ((ub.1.1.w (md_w14 ub.2)).1)) ?_
    rw [(show mu_i Hsb (m + 29) 2 = (nI (Y 13).1) from (ub.size db (j := 14) (by decide) rfl).trans (congrArg nI ((congrArg Prod.fst (show Vb.1 14 = (U.1 14) from ((zzb.t 14 rfl).trans ((z14.t 14 rfl).trans ((zza.t 14 rfl).trans ((z7.t 14 rfl).trans (z1.t 14 rfl))))))).trans hord.1)))]
    refine mw_if (P := (nI k) < (nI (Y 13).1)) (a := 235) (b := 331) (fun _ => rfl) trivial (fun h16 => ?_) (fun h16 => ?_)
    · -- 235: (nI k) < (nI (Y 13).1)
      have nh16 : k < ((Y 13).1) := (nI_ltI (by omega) (by omega)).mp (show nI k < nI ((Y 13).1) from h16)
      refine mw_go mu_g203 (k := 2) (f1 := (239, [(9, .inl (nI k)), (7, .inl (nI sl)), (0, .inr (.inr (some 100))), (1, .inl (nI a0)), (2, .inl (nI (a0 + N0))), (3, .inl (nI i0)), (4, .inr (.inr (some m))), (6, .inl (nI dp)), (8, .inl (nI (Va.1 21).1))], [.inr (.inr (mu_r Hsb 100 1))], Hsb)) (C := [mu_is Hsb (some 100) 5]) rfl (show mu_is Hsb (some 100) 5 from (ub.1.1.is rfl)) ?_
      rw [(ub.1.1.r (p := 100) (j := 1) (q := 101) rfl)]
      refine mw_go mu_g203 (k := 1) (f1 := (242, [(9, .inl (nI k)), (7, .inl (nI sl)), (0, .inr (.inr (some 100))), (1, .inl (nI a0)), (2, .inl (nI (a0 + N0))), (3, .inl (nI i0)), (4, .inr (.inr (some m))), (6, .inl (nI dp)), (8, .inl (nI (Va.1 21).1))], [.inl (mu_i Hsb 101 2)], Hsb)) (C := [mu_is Hsb (some 101) 10]) rfl (show mu_is Hsb (some 101) 10 from (ub.1.1.is rfl)) ?_
      rw [(show mu_i Hsb 101 2 = (nI (Vb.1 21).1) from (ub.size db (j := 21) (by decide) rfl).trans (congrArg (fun z => nI z.1) (show Vb.1 21 = (Vb.1 21) from rfl)))]
      refine mw_go mu_g203 (k := 1) (f1 := (244, [(9, .inl (nI k)), (7, .inl (nI sl)), (0, .inr (.inr (some 100))), (1, .inl (nI a0)), (2, .inl (nI (a0 + N0))), (3, .inl (nI i0)), (4, .inr (.inr (some m))), (6, .inl (nI dp)), (8, .inl (nI (Va.1 21).1))], [.inl (nI (Va.1 21).1), .inl (nI (Vb.1 21).1)], Hsb)) (C := []) rfl trivial ?_
      refine mw_if (P := (nI (Vb.1 21).1) < (nI (Va.1 21).1)) (a := 247) (b := 331) (fun _ => rfl) trivial (fun h17 => ?_) (fun h17 => ?_)
      · -- 247: (nI (Vb.1 21).1) < (nI (Va.1 21).1)
        have nh17 : ((Vb.1 21).1) < ((Va.1 21).1) := (nI_ltI (by omega) (by omega)).mp (show nI ((Vb.1 21).1) < nI ((Va.1 21).1) from h17)
        refine mw_go mu_g203 (k := 2) (f1 := (252, [(9, .inl (nI k)), (7, .inl (nI sl)), (0, .inr (.inr (some 100))), (1, .inl (nI a0)), (2, .inl (nI (a0 + N0))), (3, .inl (nI i0)), (4, .inr (.inr (some m))), (6, .inl (nI dp)), (8, .inl (nI (Va.1 21).1))], [.inr (.inr (mu_r Hsb m 14))], Hsb)) (C := [mu_is Hsb (some m) 6]) rfl (show mu_is Hsb (some m) 6 from (show mu_is Hsb (some m) 6 from gi_im ub.1.1 ub.2)) ?_
        rw [(show mu_r Hsb m 14 = some (m + 29) from (gi_mr ub.1.1 ub.2 (j := 14) (by decide)).trans (congrArg some (by omega)))]
        refine mw_go mu_g203 (k := 2) (f1 := (255, [(9, .inl (nI k)), (7, .inl (nI sl)), (0, .inr (.inr (some 100))), (1, .inl (nI a0)), (2, .inl (nI (a0 + N0))), (3, .inl (nI i0)), (4, .inr (.inr (some m))), (6, .inl (nI dp)), (8, .inl (nI (Va.1 21).1))], [.inl (0 : Int32), .inl (nI k), .inr (.inr (some (m + 29)))], Hsb)) (C := []) rfl trivial ?_
        refine mw_cIe (fun _ => rfl) (show mu_is Hsb (some (m + 29)) 10 from ((ub.1.1.w (md_w14 ub.2)).1)) (ub.getr (d := (d + 3)) db (j := 14) (by decide) rfl (nI k) (c := 0) (by decide)) ?_
        rw [show (tget (Vb.1 14) (nI k) 0) = (nI (od k)) from ((congrArg (fun z => tget z (nI k) 0) (show Vb.1 14 = (U.1 14) from ((zzb.t 14 rfl).trans ((z14.t 14 rfl).trans ((zza.t 14 rfl).trans ((z7.t 14 rfl).trans (z1.t 14 rfl))))))).trans (tget_nI (by omega))).trans (hord.2.1 k (by omega)).1]
        refine mw_go mu_g203 (k := 1) (f1 := (260, [(10, .inl (nI (od k))), (9, .inl (nI k)), (7, .inl (nI sl)), (0, .inr (.inr (some 100))), (1, .inl (nI a0)), (2, .inl (nI (a0 + N0))), (3, .inl (nI i0)), (4, .inr (.inr (some m))), (6, .inl (nI dp)), (8, .inl (nI (Va.1 21).1))], [], Hsb)) (C := []) rfl trivial ?_
        have hok := hord.2.1 k (by omega)
        have hdn : dnb od k (od k) = false := by cases hd : dnb od k (od k); rfl; (obtain ⟨q, q1, q2⟩ := dnb_iff.mp hd; exact absurd q2 (hord.2.2.1 q k q1 (by omega)))
        have hsv := hX.2.2 (od k) hok.2 (fun q hq => hord.2.2.1 q k hq (by omega))
        refine mw_go mu_g203 (k := 2) (f1 := (264, [(10, .inl (nI (od k))), (9, .inl (nI k)), (7, .inl (nI sl)), (0, .inr (.inr (some 100))), (1, .inl (nI a0)), (2, .inl (nI (a0 + N0))), (3, .inl (nI i0)), (4, .inr (.inr (some m))), (6, .inl (nI dp)), (8, .inl (nI (Va.1 21).1))], [.inr (.inr (mu_r Hsb 100 3))], Hsb)) (C := [mu_is Hsb (some 100) 5]) rfl (show mu_is Hsb (some 100) 5 from (ub.1.1.is rfl)) ?_
        rw [(show mu_r Hsb 100 3 = (V1.2.2.2.1 100 3) from (ud_q (U := Vb) (m := m) (P := 100) (j := 3) db rfl).trans ((zzb.r 100 3 rfl).trans ((z14.r 100 3 rfl).trans ((zza.r 100 3 rfl).trans (z7.r 100 3 rfl)))))]
        refine mw_go mu_g203 (k := 2) (f1 := (267, [(10, .inl (nI (od k))), (9, .inl (nI k)), (7, .inl (nI sl)), (0, .inr (.inr (some 100))), (1, .inl (nI a0)), (2, .inl (nI (a0 + N0))), (3, .inl (nI i0)), (4, .inr (.inr (some m))), (6, .inl (nI dp)), (8, .inl (nI (Va.1 21).1))], [.inl (mu_i Hsb (mu_p (V1.2.2.2.1 100 3)) (nI (od k)).toNatClampNeg)], Hsb)) (C := [mu_isr Hsb (V1.2.2.2.1 100 3) 100, vp_in (nI (od k)) (mu_n Hsb (mu_p (V1.2.2.2.1 100 3)))]) rfl (show (mu_isr Hsb (V1.2.2.2.1 100 3) 100) ∧ (vp_in (nI (od k)) (mu_n Hsb (mu_p (V1.2.2.2.1 100 3)))) from ⟨((ub.iA db rfl rfl (show Vb.2.2.2.1 100 3 = (V1.2.2.2.1 100 3) from ((zzb.r 100 3 rfl).trans ((z14.r 100 3 rfl).trans ((zza.r 100 3 rfl).trans (z7.r 100 3 rfl))))))).r, (ub.vA (i := od k) db rfl rfl (show Vb.2.2.2.1 100 3 = (V1.2.2.2.1 100 3) from ((zzb.r 100 3 rfl).trans ((z14.r 100 3 rfl).trans ((zza.r 100 3 rfl).trans (z7.r 100 3 rfl))))) (show (Vb.2.2.1 100 3).1 = (V1.2.2.1 100 3).1 from ((zzb.n 100 3 rfl).trans ((z14.n 100 3 rfl).trans ((zza.n 100 3 rfl).trans (z7.n 100 3 rfl))))) (by omega) (by omega))⟩) ?_
        rw [(show (mu_i Hsb (mu_p (V1.2.2.2.1 100 3)) (nI (od k)).toNatClampNeg) = ((Vb.2.2.1 100 3).2 (od k)) from ((congrArg (mu_i Hsb (mu_p (V1.2.2.2.1 100 3))) (show (nI (od k)).toNatClampNeg = od k from nI_clamp (by omega))).trans (ub.gA db rfl rfl (show Vb.2.2.2.1 100 3 = (V1.2.2.2.1 100 3) from ((zzb.r 100 3 rfl).trans ((z14.r 100 3 rfl).trans ((zza.r 100 3 rfl).trans (z7.r 100 3 rfl))))))).trans ((congrArg (fun z => z.2 (od k)) (show Vb.2.2.1 100 3 = (Vb.2.2.1 100 3) from rfl)).trans rfl))]
        refine mw_if (P := ((Vb.2.2.1 100 3).2 (od k)) < 0) (a := 325) (b := 270) (fun _ => rfl) trivial (fun h19 => ?_) (fun h19 => ?_)
        · -- 325: ((Vb.2.2.1 100 3).2 (od k)) < 0
          have hmk1 : ¬ Mk (od k) = 0 := fun z => absurd (show (Vb.2.2.1 100 3).2 (od k) < 0 from h19) (by rw [hsv, z]; decide)
          refine mw_go mu_g203 (k := 1) (f1 := (328, [(9, .inl ((nI k) + 1)), (10, .inl (nI (od k))), (7, .inl (nI sl)), (0, .inr (.inr (some 100))), (1, .inl (nI a0)), (2, .inl (nI (a0 + N0))), (3, .inl (nI i0)), (4, .inr (.inr (some m))), (6, .inl (nI dp)), (8, .inl (nI (Va.1 21).1))], [], Hsb)) (C := []) rfl trivial ?_
          rw [(show ((nI k) + 1) = (nI (k + 1)) from (nI_add k 1))]
          refine mw_go mu_g203 (k := 1) (f1 := (222, [(9, .inl (nI (k + 1))), (10, .inl (nI (od k))), (7, .inl (nI sl)), (0, .inr (.inr (some 100))), (1, .inl (nI a0)), (2, .inl (nI (a0 + N0))), (3, .inl (nI i0)), (4, .inr (.inr (some m))), (6, .inl (nI dp)), (8, .inl (nI (Va.1 21).1))], [], Hsb)) (C := []) rfl trivial ?_
          exact mw_sub (by simp) (ihb (k + 1, sl, Hsb) ⟨ub, htb, (show uq F203b (upT V14 (ac 21 V14.1 0)) (ud m Hsb) from by rw [db]; exact zzb), (show (k + 1) ≤ (Y 13).1 from (by omega)), (show ldi (ud m Hsb) Y Mk od S0 (k + 1) from by rw [db]; exact (ldi_skip hX hmk1)), (show rmk Mk od (k + 1) (Y 13).1 + mcn Mk od (k + 1) = (Va.1 21).1 from (by rw [rmk_step (hord.2.1 k (by omega)).2 hdn, if_neg hmk1] at hq2; show rmk Mk od (k + 1) (Y 13).1 + (mcn Mk od k + (if Mk (od k) = 0 then 1 else 0)) = _; rw [if_neg hmk1]; exact hq2)), (show sl = S0 + mcn Mk od (k + 1) from (by show sl = S0 + (mcn Mk od k + (if Mk (od k) = 0 then 1 else 0)); rw [if_neg hmk1]; exact hsl))⟩ (by show (Y 13).1 - (k + 1) < (Y 13).1 - k; omega))
        · -- 270: not ((Vb.2.2.1 100 3).2 (od k)) < 0
          have hmk1 : Mk (od k) = 0 := by rcases hI.1 (od k) hok.2 with z | z; (rw [← hMe]; exact z); exact absurd (show (Vb.2.2.1 100 3).2 (od k) < 0 by rw [hsv, ← hMe, z]; decide) h19
          refine mw_go mu_g203 (k := 2) (f1 := (274, [(10, .inl (nI (od k))), (9, .inl (nI k)), (7, .inl (nI sl)), (0, .inr (.inr (some 100))), (1, .inl (nI a0)), (2, .inl (nI (a0 + N0))), (3, .inl (nI i0)), (4, .inr (.inr (some m))), (6, .inl (nI dp)), (8, .inl (nI (Va.1 21).1))], [.inr (.inr (mu_r Hsb 100 3))], Hsb)) (C := [mu_is Hsb (some 100) 5]) rfl (show mu_is Hsb (some 100) 5 from (ub.1.1.is rfl)) ?_
          rw [(show mu_r Hsb 100 3 = (V1.2.2.2.1 100 3) from (ud_q (U := Vb) (m := m) (P := 100) (j := 3) db rfl).trans ((zzb.r 100 3 rfl).trans ((z14.r 100 3 rfl).trans ((zza.r 100 3 rfl).trans (z7.r 100 3 rfl)))))]
          refine mw_go mu_g203 (k := 3) (f1 := (279, [(10, .inl (nI (od k))), (9, .inl (nI k)), (7, .inl (nI sl)), (0, .inr (.inr (some 100))), (1, .inl (nI a0)), (2, .inl (nI (a0 + N0))), (3, .inl (nI i0)), (4, .inr (.inr (some m))), (6, .inl (nI dp)), (8, .inl (nI (Va.1 21).1))], [], (mu_si Hsb (mu_p (V1.2.2.2.1 100 3)) (nI (od k)).toNatClampNeg (nI sl)))) (C := [mu_is Hsb (V1.2.2.2.1 100 3) 100, vp_in (nI (od k)) (mu_n Hsb (mu_p (V1.2.2.2.1 100 3)))]) rfl (show (mu_is Hsb (V1.2.2.2.1 100 3) 100) ∧ (vp_in (nI (od k)) (mu_n Hsb (mu_p (V1.2.2.2.1 100 3)))) from ⟨(ub.iA db rfl rfl (show Vb.2.2.2.1 100 3 = (V1.2.2.2.1 100 3) from ((zzb.r 100 3 rfl).trans ((z14.r 100 3 rfl).trans ((zza.r 100 3 rfl).trans (z7.r 100 3 rfl)))))), (ub.vA (i := od k) db rfl rfl (show Vb.2.2.2.1 100 3 = (V1.2.2.2.1 100 3) from ((zzb.r 100 3 rfl).trans ((z14.r 100 3 rfl).trans ((zza.r 100 3 rfl).trans (z7.r 100 3 rfl))))) (show (Vb.2.2.1 100 3).1 = (V1.2.2.1 100 3).1 from ((zzb.n 100 3 rfl).trans ((z14.n 100 3 rfl).trans ((zza.n 100 3 rfl).trans (z7.n 100 3 rfl))))) (by omega) (by omega))⟩) ?_
          rw [(show (nI (od k)).toNatClampNeg = od k from nI_clamp (by omega))]
          obtain ⟨u20, r20, d20⟩ : um m (mu_si Hsb (mu_p (V1.2.2.2.1 100 3)) (od k) (nI sl)) ∧ ur m C Hsb (mu_si Hsb (mu_p (V1.2.2.2.1 100 3)) (od k) (nI sl)) ∧ ud m (mu_si Hsb (mu_p (V1.2.2.2.1 100 3)) (od k) (nI sl)) = (upA Vb 100 3 (od k) (nI sl)) := ub.sA (C := C) db rfl rfl (show Vb.2.2.2.1 100 3 = (V1.2.2.2.1 100 3) from ((zzb.r 100 3 rfl).trans ((z14.r 100 3 rfl).trans ((zza.r 100 3 rfl).trans (z7.r 100 3 rfl)))))
          generalize (mu_si Hsb (mu_p (V1.2.2.2.1 100 3)) (od k) (nI sl)) = Q20 at u20 r20 d20 ⊢
          have qf20 : uq F203 U (upA Vb 100 3 (od k) (nI sl)) := qfb.A rfl
          have ht20 : ur m C H Q20 := htb.trans r20
          refine mw_go mu_g203 (k := 2) (f1 := (283, [(10, .inl (nI (od k))), (9, .inl (nI k)), (7, .inl (nI sl)), (0, .inr (.inr (some 100))), (1, .inl (nI a0)), (2, .inl (nI (a0 + N0))), (3, .inl (nI i0)), (4, .inr (.inr (some m))), (6, .inl (nI dp)), (8, .inl (nI (Va.1 21).1))], [.inr (.inr (mu_r Q20 100 1))], Q20)) (C := [mu_is Q20 (some 100) 5]) rfl (show mu_is Q20 (some 100) 5 from (u20.1.1.is rfl)) ?_
          rw [(u20.1.1.r (p := 100) (j := 1) (q := 101) rfl)]
          refine mw_go mu_g203 (k := 2) (f1 := (288, [(10, .inl (nI (od k))), (9, .inl (nI k)), (7, .inl (nI sl)), (0, .inr (.inr (some 100))), (1, .inl (nI a0)), (2, .inl (nI (a0 + N0))), (3, .inl (nI i0)), (4, .inr (.inr (some m))), (6, .inl (nI dp)), (8, .inl (nI (Va.1 21).1))], [.inr (.inr (mu_r Q20 m 13)), .inr (.inr (some 101))], Q20)) (C := [mu_is Q20 (some m) 6]) rfl (show mu_is Q20 (some m) 6 from (show mu_is Q20 (some m) 6 from gi_im u20.1.1 u20.2)) ?_
          rw [(show mu_r Q20 m 13 = some (m + 27) from (gi_mr u20.1.1 u20.2 (j := 13) (by decide)).trans (congrArg some (by omega)))]
          refine mw_go mu_g203 (k := 2) (f1 := (291, [(10, .inl (nI (od k))), (9, .inl (nI k)), (7, .inl (nI sl)), (0, .inr (.inr (some 100))), (1, .inl (nI a0)), (2, .inl (nI (a0 + N0))), (3, .inl (nI i0)), (4, .inr (.inr (some m))), (6, .inl (nI dp)), (8, .inl (nI (Va.1 21).1))], [.inl (0 : Int32), .inl (nI (od k)), .inr (.inr (some (m + 27))), .inr (.inr (some 101))], Q20)) (C := []) rfl trivial ?_
          refine mw_cIe (fun _ => rfl) (show mu_is Q20 (some (m + 27)) 10 from ((u20.1.1.w (md_w13 u20.2)).1)) (u20.getr (d := (d + 3)) d20 (j := 13) (by decide) rfl (nI (od k)) (c := 0) (by decide)) ?_
          rw [show (tget ((upA Vb 100 3 (od k) (nI sl)).1 13) (nI (od k)) 0) = ((Y 13).2 (od k) 0) from ((congrArg (fun z => tget z (nI (od k)) 0) (show (upA Vb 100 3 (od k) (nI sl)).1 13 = (U.1 13) from ((zzb.t 13 rfl).trans ((z14.t 13 rfl).trans ((zza.t 13 rfl).trans ((z7.t 13 rfl).trans (z1.t 13 rfl))))))).trans (tget_nI (by omega))).trans (hj.2.1.2 (od k) 0 (by decide))]
          refine mw_go mu_g203 (k := 2) (f1 := (299, [(10, .inl (nI (od k))), (9, .inl (nI k)), (7, .inl (nI sl)), (0, .inr (.inr (some 100))), (1, .inl (nI a0)), (2, .inl (nI (a0 + N0))), (3, .inl (nI i0)), (4, .inr (.inr (some m))), (6, .inl (nI dp)), (8, .inl (nI (Va.1 21).1))], [.inr (.inr (mu_r Q20 m 13)), .inl ((Y 13).2 (od k) 0), .inr (.inr (some 101))], Q20)) (C := [mu_is Q20 (some m) 6]) rfl (show mu_is Q20 (some m) 6 from (show mu_is Q20 (some m) 6 from gi_im u20.1.1 u20.2)) ?_
          rw [(show mu_r Q20 m 13 = some (m + 27) from (gi_mr u20.1.1 u20.2 (j := 13) (by decide)).trans (congrArg some (by omega)))]
          refine mw_go mu_g203 (k := 2) (f1 := (302, [(10, .inl (nI (od k))), (9, .inl (nI k)), (7, .inl (nI sl)), (0, .inr (.inr (some 100))), (1, .inl (nI a0)), (2, .inl (nI (a0 + N0))), (3, .inl (nI i0)), (4, .inr (.inr (some m))), (6, .inl (nI dp)), (8, .inl (nI (Va.1 21).1))], [.inl (1 : Int32), .inl (nI (od k)), .inr (.inr (some (m + 27))), .inl ((Y 13).2 (od k) 0), .inr (.inr (some 101))], Q20)) (C := []) rfl trivial ?_
          refine mw_cIe (fun _ => rfl) (show mu_is Q20 (some (m + 27)) 10 from ((u20.1.1.w (md_w13 u20.2)).1)) (u20.getr (d := (d + 3)) d20 (j := 13) (by decide) rfl (nI (od k)) (c := 1) (by decide)) ?_
          rw [show (tget ((upA Vb 100 3 (od k) (nI sl)).1 13) (nI (od k)) 1) = ((Y 13).2 (od k) 1) from ((congrArg (fun z => tget z (nI (od k)) 1) (show (upA Vb 100 3 (od k) (nI sl)).1 13 = (U.1 13) from ((zzb.t 13 rfl).trans ((z14.t 13 rfl).trans ((zza.t 13 rfl).trans ((z7.t 13 rfl).trans (z1.t 13 rfl))))))).trans (tget_nI (by omega))).trans (hj.2.1.2 (od k) 1 (by decide))]
          refine mw_go mu_g203 (k := 2) (f1 := (310, [(10, .inl (nI (od k))), (9, .inl (nI k)), (7, .inl (nI sl)), (0, .inr (.inr (some 100))), (1, .inl (nI a0)), (2, .inl (nI (a0 + N0))), (3, .inl (nI i0)), (4, .inr (.inr (some m))), (6, .inl (nI dp)), (8, .inl (nI (Va.1 21).1))], [.inr (.inr (mu_r Q20 m 13)), .inl ((Y 13).2 (od k) 1), .inl ((Y 13).2 (od k) 0), .inr (.inr (some 101))], Q20)) (C := [mu_is Q20 (some m) 6]) rfl (show mu_is Q20 (some m) 6 from (show mu_is Q20 (some m) 6 from gi_im u20.1.1 u20.2)) ?_
          rw [(show mu_r Q20 m 13 = some (m + 27) from (gi_mr u20.1.1 u20.2 (j := 13) (by decide)).trans (congrArg some (by omega)))]
          refine mw_go mu_g203 (k := 2) (f1 := (313, [(10, .inl (nI (od k))), (9, .inl (nI k)), (7, .inl (nI sl)), (0, .inr (.inr (some 100))), (1, .inl (nI a0)), (2, .inl (nI (a0 + N0))), (3, .inl (nI i0)), (4, .inr (.inr (some m))), (6, .inl (nI dp)), (8, .inl (nI (Va.1 21).1))], [.inl (2 : Int32), .inl (nI (od k)), .inr (.inr (some (m + 27))), .inl ((Y 13).2 (od k) 1), .inl ((Y 13).2 (od k) 0), .inr (.inr (some 101))], Q20)) (C := []) rfl trivial ?_
          refine mw_cIe (fun _ => rfl) (show mu_is Q20 (some (m + 27)) 10 from ((u20.1.1.w (md_w13 u20.2)).1)) (u20.getr (d := (d + 3)) d20 (j := 13) (by decide) rfl (nI (od k)) (c := 2) (by decide)) ?_
          rw [show (tget ((upA Vb 100 3 (od k) (nI sl)).1 13) (nI (od k)) 2) = ((Y 13).2 (od k) 2) from ((congrArg (fun z => tget z (nI (od k)) 2) (show (upA Vb 100 3 (od k) (nI sl)).1 13 = (U.1 13) from ((zzb.t 13 rfl).trans ((z14.t 13 rfl).trans ((zza.t 13 rfl).trans ((z7.t 13 rfl).trans (z1.t 13 rfl))))))).trans (tget_nI (by omega))).trans (hj.2.1.2 (od k) 2 (by decide))]
          refine mw_go mu_g203 (k := 1) (f1 := (318, [(10, .inl (nI (od k))), (9, .inl (nI k)), (7, .inl (nI sl)), (0, .inr (.inr (some 100))), (1, .inl (nI a0)), (2, .inl (nI (a0 + N0))), (3, .inl (nI i0)), (4, .inr (.inr (some m))), (6, .inl (nI dp)), (8, .inl (nI (Va.1 21).1))], [.inl (nI sl), .inl ((Y 13).2 (od k) 2), .inl ((Y 13).2 (od k) 1), .inl ((Y 13).2 (od k) 0), .inr (.inr (some 101))], Q20)) (C := []) rfl trivial ?_
          refine mw_cI (fun _ => rfl) (show mu_is Q20 (some 101) 10 from (u20.1.1.is rfl)) (u20.putr (C := C) (d := (d + 1)) d20 (j := 21) (Or.inr ⟨by decide, by decide⟩) rfl ((Y 13).2 (od k) 0) ((Y 13).2 (od k) 1) ((Y 13).2 (od k) 2) (nI sl) (by have z1 : (Vb.1 21).1 = mcn Mk od k := hX.1; show 2 * (((Vb.1 21).1 + 1) * 4) + 4 ≤ C 21; omega) hC2) (fun x24 Q24 q24 => ?_)
          obtain ⟨rfl, u24, r24, d24⟩ := q24
          have ht24 : ur m C H Q24 := ht20.trans r24
          have qf24 : uq F203 U (upT (upA Vb 100 3 (od k) (nI sl)) (ap 21 (upA Vb 100 3 (od k) (nI sl)).1 ((Y 13).2 (od k) 0) ((Y 13).2 (od k) 1) ((Y 13).2 (od k) 2) (nI sl))) := qf20.ap rfl
          refine mw_go mu_g203 (k := 2) (f1 := (325, [(7, .inl ((nI sl) + 1)), (10, .inl (nI (od k))), (9, .inl (nI k)), (0, .inr (.inr (some 100))), (1, .inl (nI a0)), (2, .inl (nI (a0 + N0))), (3, .inl (nI i0)), (4, .inr (.inr (some m))), (6, .inl (nI dp)), (8, .inl (nI (Va.1 21).1))], [], Q24)) (C := []) rfl trivial ?_
          rw [(show ((nI sl) + 1) = (nI (sl + 1)) from (nI_add sl 1))]
          refine mw_go mu_g203 (k := 1) (f1 := (328, [(9, .inl ((nI k) + 1)), (7, .inl (nI (sl + 1))), (10, .inl (nI (od k))), (0, .inr (.inr (some 100))), (1, .inl (nI a0)), (2, .inl (nI (a0 + N0))), (3, .inl (nI i0)), (4, .inr (.inr (some m))), (6, .inl (nI dp)), (8, .inl (nI (Va.1 21).1))], [], Q24)) (C := []) rfl trivial ?_
          rw [(show ((nI k) + 1) = (nI (k + 1)) from (nI_add k 1))]
          refine mw_go mu_g203 (k := 1) (f1 := (222, [(9, .inl (nI (k + 1))), (7, .inl (nI (sl + 1))), (10, .inl (nI (od k))), (0, .inr (.inr (some 100))), (1, .inl (nI a0)), (2, .inl (nI (a0 + N0))), (3, .inl (nI i0)), (4, .inr (.inr (some m))), (6, .inl (nI dp)), (8, .inl (nI (Va.1 21).1))], [], Q24)) (C := []) rfl trivial ?_
          exact mw_sub (by simp) (ihb (k + 1, sl + 1, Q24) ⟨u24, ht24, (show uq F203b (upT V14 (ac 21 V14.1 0)) (ud m Q24) from by rw [d24]; exact ((zzb.A rfl).T (fun q hq => by first | exact ax_ne (in1_ne rfl hq) | exact ap_ne (in1_ne rfl hq) | exact fu_ne _ _ (in1_ne rfl hq)))), (show (k + 1) ≤ (Y 13).1 from (by omega)), (show ldi (ud m Q24) Y Mk od S0 (k + 1) from by rw [d24]; exact (ldi_put (V := Vb) hX (fun q hq => hord.2.2.1 q k hq (by omega)) hmk1 (fun e => by show (if e = od k then nI sl else _) = _; rw [hsl]) (by rw [← hsl]; rfl))), (show rmk Mk od (k + 1) (Y 13).1 + mcn Mk od (k + 1) = (Va.1 21).1 from (by rw [rmk_step (hord.2.1 k (by omega)).2 hdn, if_pos hmk1] at hq2; show rmk Mk od (k + 1) (Y 13).1 + (mcn Mk od k + (if Mk (od k) = 0 then 1 else 0)) = _; rw [if_pos hmk1]; omega)), (show (sl + 1) = S0 + mcn Mk od (k + 1) from (by show sl + 1 = S0 + (mcn Mk od k + (if Mk (od k) = 0 then 1 else 0)); rw [if_pos hmk1]; omega))⟩ (by show (Y 13).1 - (k + 1) < (Y 13).1 - k; omega))
      · -- 331: not (nI (Vb.1 21).1) < (nI (Va.1 21).1)
        have nh17 : ¬ ((Vb.1 21).1) < ((Va.1 21).1) := fun z => h17 (show nI ((Vb.1 21).1) < nI ((Va.1 21).1) from (nI_ltI (by omega) (by omega)).mpr z)
        refine mw_go mu_g203 (k := 2) (f1 := (335, [(9, .inl (nI k)), (7, .inl (nI sl)), (0, .inr (.inr (some 100))), (1, .inl (nI a0)), (2, .inl (nI (a0 + N0))), (3, .inl (nI i0)), (4, .inr (.inr (some m))), (6, .inl (nI dp)), (8, .inl (nI (Va.1 21).1))], [.inr (.inr (mu_r Hsb 100 1))], Hsb)) (C := [mu_is Hsb (some 100) 5]) rfl (show mu_is Hsb (some 100) 5 from (ub.1.1.is rfl)) ?_
        rw [(ub.1.1.r (p := 100) (j := 1) (q := 101) rfl)]
        refine mw_go mu_g203 (k := 4) (f1 := (339, [(9, .inl (nI k)), (7, .inl (nI sl)), (0, .inr (.inr (some 100))), (1, .inl (nI a0)), (2, .inl (nI (a0 + N0))), (3, .inl (nI i0)), (4, .inr (.inr (some m))), (6, .inl (nI dp)), (8, .inl (nI (Va.1 21).1))], [.inl (-1 : Int32), .inl (nI i0), .inl (nI (a0 + N0)), .inl (nI a0), .inr (.inr (some 101))], Hsb)) (C := []) rfl trivial ?_
        refine mw_cI (fun _ => rfl) (show mu_is Hsb (some 101) 10 from (ub.1.1.is rfl)) (ub.putr (C := C) (d := (d + 1)) db (j := 21) (Or.inr ⟨by decide, by decide⟩) rfl (nI a0) (nI (a0 + N0)) (nI i0) (-1 : Int32) (by have z1 : (Vb.1 21).1 = mcn Mk od k := hX.1; show 2 * (((Vb.1 21).1 + 1) * 4) + 4 ≤ C 21; omega) hC2) (fun x25 Q25 q25 => ?_)
        obtain ⟨rfl, u25, r25, d25⟩ := q25
        have ht25 : ur m C H Q25 := htb.trans r25
        have qf25 : uq F203 U (upT Vb (ap 21 Vb.1 (nI a0) (nI (a0 + N0)) (nI i0) (-1 : Int32))) := qfb.ap rfl
        refine mw_go mu_g203 (k := 4) (f1 := (348, [(9, .inl (nI k)), (7, .inl (nI sl)), (0, .inr (.inr (some 100))), (1, .inl (nI a0)), (2, .inl (nI (a0 + N0))), (3, .inl (nI i0)), (4, .inr (.inr (some m))), (6, .inl (nI dp)), (8, .inl (nI (Va.1 21).1))], [.inl (nI dp), .inl (nI sl), .inr (.inr (some 100))], Q25)) (C := []) rfl trivial ?_
        refine mw_cV (fun _ => rfl) (show mu_is Q25 (some 100) 5 from (u25.1.1.is rfl)) (mc_layOut (d := (d + 1)) (C := C) (sl := sl) (dp := dp) (cp := sfz Y a0 N0) (T := pd f 0 P) u25 d25 (show (upT Vb (ap 21 Vb.1 (nI a0) (nI (a0 + N0)) (nI i0) (-1 : Int32))).2.2.2.1 100 0 = some 99 from ((zzb.r 100 0 rfl).trans ((z14.r 100 0 rfl).trans ((zza.r 100 0 rfl).trans ((z7.r 100 0 rfl).trans ((z1.r 100 0 rfl).trans hsp)))))) (show (upT Vb (ap 21 Vb.1 (nI a0) (nI (a0 + N0)) (nI i0) (-1 : Int32))).2.1 99 11 = nI (pd f 0 P) from ((zzb.i 99 11 rfl).trans ((z14.i 99 11 rfl).trans ((zza.i 99 11 rfl).trans ((z7.i 99 11 rfl).trans ((z1.i 99 11 rfl).trans s11)))))) gpd (show (upT Vb (ap 21 Vb.1 (nI a0) (nI (a0 + N0)) (nI i0) (-1 : Int32))).2.1 100 5 = nI (sfz Y a0 N0) from ((zzb.i 100 5 rfl).trans ((z14.i 100 5 rfl).trans hC))) (by omega) hD.1 (by rw [(show ((upT Vb (ap 21 Vb.1 (nI a0) (nI (a0 + N0)) (nI i0) (-1 : Int32))).2.2.1 100 8).1 = (U.2.2.1 100 8).1 from ((zzb.n 100 8 rfl).trans ((z14.n 100 8 rfl).trans ((zza.n 100 8 rfl).trans ((z7.n 100 8 rfl).trans (z1.n 100 8 rfl))))))]; exact hcl) (by rw [(show ((upT Vb (ap 21 Vb.1 (nI a0) (nI (a0 + N0)) (nI i0) (-1 : Int32))).2.2.1 100 12).1 = (U.2.2.1 100 12).1 from ((zzb.n 100 12 rfl).trans ((z14.n 100 12 rfl).trans ((zza.n 100 12 rfl).trans ((z7.n 100 12 rfl).trans (z1.n 100 12 rfl))))))]; exact hs12) (by rw [(show ((upT Vb (ap 21 Vb.1 (nI a0) (nI (a0 + N0)) (nI i0) (-1 : Int32))).2.2.1 100 13).1 = (U.2.2.1 100 13).1 from ((zzb.n 100 13 rfl).trans ((z14.n 100 13 rfl).trans ((zza.n 100 13 rfl).trans ((z7.n 100 13 rfl).trans (z1.n 100 13 rfl))))))]; exact hs13) (by rw [(show ((upT Vb (ap 21 Vb.1 (nI a0) (nI (a0 + N0)) (nI i0) (-1 : Int32))).2.2.1 100 15).1 = (U.2.2.1 100 15).1 from ((zzb.n 100 15 rfl).trans ((z14.n 100 15 rfl).trans ((zza.n 100 15 rfl).trans ((z7.n 100 15 rfl).trans (z1.n 100 15 rfl))))))]; exact hs15)) (fun Q26 q26 => ?_)
        obtain ⟨u26, r26, z26, W, lo⟩ := q26
        have ht26 : ur m C H Q26 := ht25.trans r26
        obtain ⟨V26, d26⟩ : ∃ V, ud m Q26 = V := ⟨_, rfl⟩
        rw [d26] at z26 lo
        have qf26 : uq F203 U V26 := qf25.tr z26 rfl
        have hall : ∀ e, e < (Y 13).1 → Mk e = 0 → ∃ q, q < k ∧ od q = e := fun e he hz => rmk_all (show rmk Mk od k (Y 13).1 = 0 by omega) he hz
        have hK : mcn Mk od k = (Va.1 21).1 := by have := rmk_none hall; omega
        have hz21 := (show V26.1 21 = ap 21 Vb.1 (nI a0) (nI (a0 + N0)) (nI i0) (-1) 21 from (z26.t 21 rfl))
        have hz3 := (show V26.2.2.1 100 3 = Vb.2.2.1 100 3 from (z26.a 100 3 rfl))
        obtain ⟨lo7, lo17, lo1, lo2, lo8, locl, lo12, lo13, lo15⟩ := lo
        refine mw_of (fun _ => mu_ret rfl trivial (hΦ Q26 ⟨u26, ht26, (by rw [d26]; exact qf26), S0, mcn Mk od k, dp, W, Va.2.1 100 4, fun e => Mk e = 0, mcn Mk od, ?_⟩))
        rw [d26]
        have hn3 : (Y 13).1 ≤ (V26.2.2.1 100 3).1 ∧ (V26.2.2.1 100 3).1 ≤ 131072 := by rw [(show (V26.2.2.1 100 3).1 = (V1.2.2.1 100 3).1 from ((z26.n 100 3 rfl).trans ((zzb.n 100 3 rfl).trans ((z14.n 100 3 rfl).trans ((zza.n 100 3 rfl).trans (z7.n 100 3 rfl))))))]; omega
        refine ⟨⟨hn3, ⟨by rw [hz21, ap_n, hX1], ?_⟩, fun q hq hz => ?_, fun q q2 hq hz => mcn_lt hq hz, fun r hr => ?_⟩, ⟨⟨((z26.i 100 5 rfl).trans ((zzb.i 100 5 rfl).trans ((z14.i 100 5 rfl).trans hC))), by rw [← hsl]; exact lo7, lo17, ((z26.i 100 4 rfl).trans ((zzb.i 100 4 rfl).trans (z14.i 100 4 rfl)))⟩, ⟨lo1, lo2⟩, ⟨by rw [← hsl]; exact lo8, locl⟩, by rw [← hsl]; exact lo12, lo13, lo15, by omega, hD.1, hS0⟩, ⟨⟨lfo_m (M := Mk) hL hMe (show Va.1 15 = U.1 15 from ((zza.t 15 rfl).trans ((z7.t 15 rfl).trans (z1.t 15 rfl)))) rfl, hD.2.2, rfl⟩, fun e he hz => ?_, hI.2.2.2.2⟩, ?_, wd, ((z26.i 100 6 rfl).trans ((zzb.i 100 6 rfl).trans ((z14.i 100 6 rfl).trans ew))), hwd⟩
        · have hn := fun c (hc : c < 4) => (congrArg (fun z => z.2 (Vb.1 21).1 c) hz21).trans (ap_new (show c < wa 21 from hc))
          rw [hX1] at hn
          exact ⟨hn 0 (by decide), hn 1 (by decide), hn 2 (by decide), hn 3 (by decide)⟩
        · have hqk : q < k := by obtain ⟨q2, y1, y2⟩ := hall (od q) (hord.2.1 q hq).2 hz; by_cases y3 : q < k; exact y3; exact absurd y2 (hord.2.2.1 q2 q (by omega) hq)
          obtain ⟨y1, y2, y3⟩ := hX.2.1 q hqk hz
          have hl := mcn_lt hqk hz
          refine ⟨hl, by rw [hz3]; exact y1, fun c hc => ?_, ?_⟩
          · rw [hz21, ap_lt (by omega)]; exact y2 c hc
          · rw [hz21, ap_lt (by omega)]; exact y3
        · obtain ⟨q, y1, y2, y3⟩ := mcn_inv hr; exact ⟨q, by omega, y2, y3⟩
        · obtain ⟨y1, y2⟩ := hA e he ((hMe e).trans hz); exact ⟨lfo_m (M := Mk) y1 hMe (show Va.1 15 = U.1 15 from ((zza.t 15 rfl).trans ((z7.t 15 rfl).trans (z1.t 15 rfl)))) rfl, y2⟩
        · rw [((z26.t 22 rfl).trans (zzb.t 22 rfl))]; exact hsd
    · -- 331: not (nI k) < (nI (Y 13).1)
      have nh16 : ¬ k < ((Y 13).1) := fun z => h16 (show nI k < nI ((Y 13).1) from (nI_ltI (by omega) (by omega)).mpr z)
      refine mw_go mu_g203 (k := 2) (f1 := (335, [(9, .inl (nI k)), (7, .inl (nI sl)), (0, .inr (.inr (some 100))), (1, .inl (nI a0)), (2, .inl (nI (a0 + N0))), (3, .inl (nI i0)), (4, .inr (.inr (some m))), (6, .inl (nI dp)), (8, .inl (nI (Va.1 21).1))], [.inr (.inr (mu_r Hsb 100 1))], Hsb)) (C := [mu_is Hsb (some 100) 5]) rfl (show mu_is Hsb (some 100) 5 from (ub.1.1.is rfl)) ?_
      rw [(ub.1.1.r (p := 100) (j := 1) (q := 101) rfl)]
      refine mw_go mu_g203 (k := 4) (f1 := (339, [(9, .inl (nI k)), (7, .inl (nI sl)), (0, .inr (.inr (some 100))), (1, .inl (nI a0)), (2, .inl (nI (a0 + N0))), (3, .inl (nI i0)), (4, .inr (.inr (some m))), (6, .inl (nI dp)), (8, .inl (nI (Va.1 21).1))], [.inl (-1 : Int32), .inl (nI i0), .inl (nI (a0 + N0)), .inl (nI a0), .inr (.inr (some 101))], Hsb)) (C := []) rfl trivial ?_
      refine mw_cI (fun _ => rfl) (show mu_is Hsb (some 101) 10 from (ub.1.1.is rfl)) (ub.putr (C := C) (d := (d + 1)) db (j := 21) (Or.inr ⟨by decide, by decide⟩) rfl (nI a0) (nI (a0 + N0)) (nI i0) (-1 : Int32) (by have z1 : (Vb.1 21).1 = mcn Mk od k := hX.1; show 2 * (((Vb.1 21).1 + 1) * 4) + 4 ≤ C 21; omega) hC2) (fun x27 Q27 q27 => ?_)
      obtain ⟨rfl, u27, r27, d27⟩ := q27
      have ht27 : ur m C H Q27 := htb.trans r27
      have qf27 : uq F203 U (upT Vb (ap 21 Vb.1 (nI a0) (nI (a0 + N0)) (nI i0) (-1 : Int32))) := qfb.ap rfl
      refine mw_go mu_g203 (k := 4) (f1 := (348, [(9, .inl (nI k)), (7, .inl (nI sl)), (0, .inr (.inr (some 100))), (1, .inl (nI a0)), (2, .inl (nI (a0 + N0))), (3, .inl (nI i0)), (4, .inr (.inr (some m))), (6, .inl (nI dp)), (8, .inl (nI (Va.1 21).1))], [.inl (nI dp), .inl (nI sl), .inr (.inr (some 100))], Q27)) (C := []) rfl trivial ?_
      refine mw_cV (fun _ => rfl) (show mu_is Q27 (some 100) 5 from (u27.1.1.is rfl)) (mc_layOut (d := (d + 1)) (C := C) (sl := sl) (dp := dp) (cp := sfz Y a0 N0) (T := pd f 0 P) u27 d27 (show (upT Vb (ap 21 Vb.1 (nI a0) (nI (a0 + N0)) (nI i0) (-1 : Int32))).2.2.2.1 100 0 = some 99 from ((zzb.r 100 0 rfl).trans ((z14.r 100 0 rfl).trans ((zza.r 100 0 rfl).trans ((z7.r 100 0 rfl).trans ((z1.r 100 0 rfl).trans hsp)))))) (show (upT Vb (ap 21 Vb.1 (nI a0) (nI (a0 + N0)) (nI i0) (-1 : Int32))).2.1 99 11 = nI (pd f 0 P) from ((zzb.i 99 11 rfl).trans ((z14.i 99 11 rfl).trans ((zza.i 99 11 rfl).trans ((z7.i 99 11 rfl).trans ((z1.i 99 11 rfl).trans s11)))))) gpd (show (upT Vb (ap 21 Vb.1 (nI a0) (nI (a0 + N0)) (nI i0) (-1 : Int32))).2.1 100 5 = nI (sfz Y a0 N0) from ((zzb.i 100 5 rfl).trans ((z14.i 100 5 rfl).trans hC))) (by omega) hD.1 (by rw [(show ((upT Vb (ap 21 Vb.1 (nI a0) (nI (a0 + N0)) (nI i0) (-1 : Int32))).2.2.1 100 8).1 = (U.2.2.1 100 8).1 from ((zzb.n 100 8 rfl).trans ((z14.n 100 8 rfl).trans ((zza.n 100 8 rfl).trans ((z7.n 100 8 rfl).trans (z1.n 100 8 rfl))))))]; exact hcl) (by rw [(show ((upT Vb (ap 21 Vb.1 (nI a0) (nI (a0 + N0)) (nI i0) (-1 : Int32))).2.2.1 100 12).1 = (U.2.2.1 100 12).1 from ((zzb.n 100 12 rfl).trans ((z14.n 100 12 rfl).trans ((zza.n 100 12 rfl).trans ((z7.n 100 12 rfl).trans (z1.n 100 12 rfl))))))]; exact hs12) (by rw [(show ((upT Vb (ap 21 Vb.1 (nI a0) (nI (a0 + N0)) (nI i0) (-1 : Int32))).2.2.1 100 13).1 = (U.2.2.1 100 13).1 from ((zzb.n 100 13 rfl).trans ((z14.n 100 13 rfl).trans ((zza.n 100 13 rfl).trans ((z7.n 100 13 rfl).trans (z1.n 100 13 rfl))))))]; exact hs13) (by rw [(show ((upT Vb (ap 21 Vb.1 (nI a0) (nI (a0 + N0)) (nI i0) (-1 : Int32))).2.2.1 100 15).1 = (U.2.2.1 100 15).1 from ((zzb.n 100 15 rfl).trans ((z14.n 100 15 rfl).trans ((zza.n 100 15 rfl).trans ((z7.n 100 15 rfl).trans (z1.n 100 15 rfl))))))]; exact hs15)) (fun Q28 q28 => ?_)
      obtain ⟨u28, r28, z28, W, lo⟩ := q28
      have ht28 : ur m C H Q28 := ht27.trans r28
      obtain ⟨V28, d28⟩ : ∃ V, ud m Q28 = V := ⟨_, rfl⟩
      rw [d28] at z28 lo
      have qf28 : uq F203 U V28 := qf27.tr z28 rfl
      have hall : ∀ e, e < (Y 13).1 → Mk e = 0 → ∃ q, q < k ∧ od q = e := fun e he hz => by obtain ⟨q, q1, q2⟩ := hord.2.2.2 e he; exact ⟨q, by omega, q2⟩
      have hK : mcn Mk od k = (Va.1 21).1 := by have := rmk_none hall; omega
      have hz21 := (show V28.1 21 = ap 21 Vb.1 (nI a0) (nI (a0 + N0)) (nI i0) (-1) 21 from (z28.t 21 rfl))
      have hz3 := (show V28.2.2.1 100 3 = Vb.2.2.1 100 3 from (z28.a 100 3 rfl))
      obtain ⟨lo7, lo17, lo1, lo2, lo8, locl, lo12, lo13, lo15⟩ := lo
      refine mw_of (fun _ => mu_ret rfl trivial (hΦ Q28 ⟨u28, ht28, (by rw [d28]; exact qf28), S0, mcn Mk od k, dp, W, Va.2.1 100 4, fun e => Mk e = 0, mcn Mk od, ?_⟩))
      rw [d28]
      have hn3 : (Y 13).1 ≤ (V28.2.2.1 100 3).1 ∧ (V28.2.2.1 100 3).1 ≤ 131072 := by rw [(show (V28.2.2.1 100 3).1 = (V1.2.2.1 100 3).1 from ((z28.n 100 3 rfl).trans ((zzb.n 100 3 rfl).trans ((z14.n 100 3 rfl).trans ((zza.n 100 3 rfl).trans (z7.n 100 3 rfl))))))]; omega
      refine ⟨⟨hn3, ⟨by rw [hz21, ap_n, hX1], ?_⟩, fun q hq hz => ?_, fun q q2 hq hz => mcn_lt hq hz, fun r hr => ?_⟩, ⟨⟨((z28.i 100 5 rfl).trans ((zzb.i 100 5 rfl).trans ((z14.i 100 5 rfl).trans hC))), by rw [← hsl]; exact lo7, lo17, ((z28.i 100 4 rfl).trans ((zzb.i 100 4 rfl).trans (z14.i 100 4 rfl)))⟩, ⟨lo1, lo2⟩, ⟨by rw [← hsl]; exact lo8, locl⟩, by rw [← hsl]; exact lo12, lo13, lo15, by omega, hD.1, hS0⟩, ⟨⟨lfo_m (M := Mk) hL hMe (show Va.1 15 = U.1 15 from ((zza.t 15 rfl).trans ((z7.t 15 rfl).trans (z1.t 15 rfl)))) rfl, hD.2.2, rfl⟩, fun e he hz => ?_, hI.2.2.2.2⟩, ?_, wd, ((z28.i 100 6 rfl).trans ((zzb.i 100 6 rfl).trans ((z14.i 100 6 rfl).trans ew))), hwd⟩
      · have hn := fun c (hc : c < 4) => (congrArg (fun z => z.2 (Vb.1 21).1 c) hz21).trans (ap_new (show c < wa 21 from hc))
        rw [hX1] at hn
        exact ⟨hn 0 (by decide), hn 1 (by decide), hn 2 (by decide), hn 3 (by decide)⟩
      · have hqk : q < k := by obtain ⟨q2, y1, y2⟩ := hall (od q) (hord.2.1 q hq).2 hz; by_cases y3 : q < k; exact y3; exact absurd y2 (hord.2.2.1 q2 q (by omega) hq)
        obtain ⟨y1, y2, y3⟩ := hX.2.1 q hqk hz
        have hl := mcn_lt hqk hz
        refine ⟨hl, by rw [hz3]; exact y1, fun c hc => ?_, ?_⟩
        · rw [hz21, ap_lt (by omega)]; exact y2 c hc
        · rw [hz21, ap_lt (by omega)]; exact y3
      · obtain ⟨q, y1, y2, y3⟩ := mcn_inv hr; exact ⟨q, by omega, y2, y3⟩
      · obtain ⟨y1, y2⟩ := hA e he ((hMe e).trans hz); exact ⟨lfo_m (M := Mk) y1 hMe (show Va.1 15 = U.1 15 from ((zza.t 15 rfl).trans ((z7.t 15 rfl).trans (z1.t 15 rfl)))) rfl, y2⟩
      · rw [((z28.t 22 rfl).trans (zzb.t 22 rfl))]; exact hsd
theorem mc_loadE (h : um m H) (e : ud m H = U) (hS : spx m U P f) (hj : jv Y U.1) (hJ : JW Y) (hi0 : i0 < (Y 11).1) {kd : Bool} (hr0 : rg Y (im Y i0) kd a0 (a0 + N0)) (hpl : ∀ w, w < (Y 15).1 → (U.1 15).2 w 2 = -1 ∨ ∃ pl, pl < P ∧ (U.1 15).2 w 2 = nI pl) (hnx0 : ∀ x, x < N0 → oc Y (a0 + x) = 3 → NX) (hnxe : ∀ e, e < (Y 13).1 → ∀ x, x < elx Y e → oc Y (enx Y e 0 + x) = 3 → NX)
    (hord : ORD (U.1 14) (Y 13).1 od) (hE : (Y 13).1 ≤ 4001) (hcs : (Y 0).1 ≤ 14000) (hs22 : (U.1 22).1 = 28) (hs3 : (U.2.2.1 100 3).1 ≤ 131072) (hcl : clz (U.2.2.1 100 8).1) (hs12 : (U.2.2.1 100 12).1 ≤ 131072) (hs13 : (U.2.2.1 100 13).1 ≤ 131072) (hs15 : (U.2.2.1 100 15).1 ≤ 131072) (hC1 : 2 * (((Y 13).1 + 2) * 4) + 4 ≤ C 21) (hC2 : C 21 ≤ 8388608) (hn0 : (U.1 21).1 = 0) : mu_TV (mu_D (d + 5)) 203 [.inr (.inr (some 100)), .inl (nI a0), .inl (nI (a0 + N0)), .inl (nI i0)] H (fun H1 => um m H1 ∧ ur m C H H1 ∧ uq F203 U (ud m H1) ∧ ∃ S0 K dp W mk M rk, LR (ud m H1) Y a0 N0 i0 od S0 K M rk ∧ LZx (ud m H1) S0 K (sfz Y a0 N0) dp W mk ∧ LC (U.1 15) Y P NX a0 N0 i0 (sfz Y a0 N0) dp mk M ∧ sdz ((ud m H1).1 22) P S0 mk ∧ ∃ wd, (ud m H1).2.1 100 6 = nI wd ∧ wd ≤ (Y 0).1) := by
  have hsp := hS.2.2.2.2.1
  have hmo := hS.2.2.2.2.2
  refine mu_meth (M := mu_m203) rfl rfl ?_
  refine mw_ht (mu_fn_of (show [0, 1, 2, 3].Nodup by decide)) ?_
  refine mw_go mu_g203 (k := 2) (f1 := (4, [(0, .inr (.inr (some 100))), (1, .inl (nI a0)), (2, .inl (nI (a0 + N0))), (3, .inl (nI i0))], [.inr (.inr (mu_r H 100 0))], H)) (C := [mu_is H (some 100) 5]) rfl (show mu_is H (some 100) 5 from (h.1.1.is rfl)) ?_
  rw [(show mu_r H 100 0 = (some 99) from (ud_q (U := U) (m := m) (P := 100) (j := 0) e rfl).trans hsp)]
  refine mw_go mu_g203 (k := 1) (f1 := (7, [(0, .inr (.inr (some 100))), (1, .inl (nI a0)), (2, .inl (nI (a0 + N0))), (3, .inl (nI i0))], [.inr (.inr (mu_r H 99 0))], H)) (C := [mu_is H (some 99) 13]) rfl (show mu_is H (some 99) 13 from (h.1.1.is rfl)) ?_
  rw [(show mu_r H 99 0 = (some m) from (ud_q (U := U) (m := m) (P := 99) (j := 0) e rfl).trans hmo)]
  refine mw_go mu_g203 (k := 3) (f1 := (13, [(4, .inr (.inr (some m))), (0, .inr (.inr (some 100))), (1, .inl (nI a0)), (2, .inl (nI (a0 + N0))), (3, .inl (nI i0))], [.inr (.inr (mu_r H 100 1))], H)) (C := [mu_is H (some 100) 5]) rfl (show mu_is H (some 100) 5 from (h.1.1.is rfl)) ?_
  rw [(h.1.1.r (p := 100) (j := 1) (q := 101) rfl)]
  refine mw_go mu_g203 (k := 1) (f1 := (16, [(4, .inr (.inr (some m))), (0, .inr (.inr (some 100))), (1, .inl (nI a0)), (2, .inl (nI (a0 + N0))), (3, .inl (nI i0))], [.inl (mu_i H 101 2)], H)) (C := [mu_is H (some 101) 10]) rfl (show mu_is H (some 101) 10 from (h.1.1.is rfl)) ?_
  rw [(show mu_i H 101 2 = (nI (U.1 21).1) from (h.size e (j := 21) (by decide) rfl).trans (congrArg (fun z => nI z.1) (show U.1 21 = (U.1 21) from rfl)))]
  refine mw_go mu_g203 (k := 4) (f1 := (22, [(5, .inl ((nI (U.1 21).1) - (1 : Int32))), (4, .inr (.inr (some m))), (0, .inr (.inr (some 100))), (1, .inl (nI a0)), (2, .inl (nI (a0 + N0))), (3, .inl (nI i0))], [.inl ((nI (U.1 21).1) - (1 : Int32))], H)) (C := []) rfl trivial ?_
  refine mw_if (P := ((nI (U.1 21).1) - (1 : Int32)) < 0) (a := 68) (b := 25) (fun _ => rfl) trivial (fun h1 => ?_) (fun h1 => absurd (by rw [hn0]; decide) h1)
  refine mw_sub (L' := [(0, .inr (.inr (some 100))), (1, .inl (nI a0)), (2, .inl (nI (a0 + N0))), (3, .inl (nI i0)), (4, .inr (.inr (some m)))]) (by simp) ?_
  exact ld_tail (d := d) (C := C) h e hS hj hJ hi0 hr0 hpl hnx0 hnxe hord hE hcs hs22 hs3 hcl hs12 hs13 hs15 hC1 hC2 (fun H1 z => ⟨H1, rfl, z⟩)
theorem mc_loadN {n1 : Nat} (h : um m H) (e : ud m H = U) (hS : spx m U P f) (hj : jv Y U.1) (hJ : JW Y) (hi0 : i0 < (Y 11).1) {kd : Bool} (hr0 : rg Y (im Y i0) kd a0 (a0 + N0)) (hpl : ∀ w, w < (Y 15).1 → (U.1 15).2 w 2 = -1 ∨ ∃ pl, pl < P ∧ (U.1 15).2 w 2 = nI pl) (hnx0 : ∀ x, x < N0 → oc Y (a0 + x) = 3 → NX) (hnxe : ∀ e, e < (Y 13).1 → ∀ x, x < elx Y e → oc Y (enx Y e 0 + x) = 3 → NX)
    (hord : ORD (U.1 14) (Y 13).1 od) (hE : (Y 13).1 ≤ 4001) (hcs : (Y 0).1 ≤ 14000) (hs22 : (U.1 22).1 = 28) (hs3 : (U.2.2.1 100 3).1 ≤ 131072) (hcl : clz (U.2.2.1 100 8).1) (hs12 : (U.2.2.1 100 12).1 ≤ 131072) (hs13 : (U.2.2.1 100 13).1 ≤ 131072) (hs15 : (U.2.2.1 100 15).1 ≤ 131072) (hC1 : 2 * (((Y 13).1 + 2) * 4) + 4 ≤ C 21) (hC2 : C 21 ≤ 8388608) (hn1 : (U.1 21).1 = n1 + 1) (hn2 : n1 ≤ 8388608) : mu_TV (mu_D (d + 5)) 203 [.inr (.inr (some 100)), .inl (nI a0), .inl (nI (a0 + N0)), .inl (nI i0)] H (fun H1 => (H1 = H ∧ (U.1 21).2 n1 0 = nI a0 ∧ (U.1 21).2 n1 1 = nI (a0 + N0) ∧ (U.1 21).2 n1 2 = nI i0) ∨ (um m H1 ∧ ur m C H H1 ∧ uq F203 U (ud m H1) ∧ ∃ S0 K dp W mk M rk, LR (ud m H1) Y a0 N0 i0 od S0 K M rk ∧ LZx (ud m H1) S0 K (sfz Y a0 N0) dp W mk ∧ LC (U.1 15) Y P NX a0 N0 i0 (sfz Y a0 N0) dp mk M ∧ sdz ((ud m H1).1 22) P S0 mk ∧ ∃ wd, (ud m H1).2.1 100 6 = nI wd ∧ wd ≤ (Y 0).1)) := by
  have hsp := hS.2.2.2.2.1
  have hmo := hS.2.2.2.2.2
  refine mu_meth (M := mu_m203) rfl rfl ?_
  refine mw_ht (mu_fn_of (show [0, 1, 2, 3].Nodup by decide)) ?_
  refine mw_go mu_g203 (k := 2) (f1 := (4, [(0, .inr (.inr (some 100))), (1, .inl (nI a0)), (2, .inl (nI (a0 + N0))), (3, .inl (nI i0))], [.inr (.inr (mu_r H 100 0))], H)) (C := [mu_is H (some 100) 5]) rfl (show mu_is H (some 100) 5 from (h.1.1.is rfl)) ?_
  rw [(show mu_r H 100 0 = (some 99) from (ud_q (U := U) (m := m) (P := 100) (j := 0) e rfl).trans hsp)]
  refine mw_go mu_g203 (k := 1) (f1 := (7, [(0, .inr (.inr (some 100))), (1, .inl (nI a0)), (2, .inl (nI (a0 + N0))), (3, .inl (nI i0))], [.inr (.inr (mu_r H 99 0))], H)) (C := [mu_is H (some 99) 13]) rfl (show mu_is H (some 99) 13 from (h.1.1.is rfl)) ?_
  rw [(show mu_r H 99 0 = (some m) from (ud_q (U := U) (m := m) (P := 99) (j := 0) e rfl).trans hmo)]
  refine mw_go mu_g203 (k := 3) (f1 := (13, [(4, .inr (.inr (some m))), (0, .inr (.inr (some 100))), (1, .inl (nI a0)), (2, .inl (nI (a0 + N0))), (3, .inl (nI i0))], [.inr (.inr (mu_r H 100 1))], H)) (C := [mu_is H (some 100) 5]) rfl (show mu_is H (some 100) 5 from (h.1.1.is rfl)) ?_
  rw [(h.1.1.r (p := 100) (j := 1) (q := 101) rfl)]
  refine mw_go mu_g203 (k := 1) (f1 := (16, [(4, .inr (.inr (some m))), (0, .inr (.inr (some 100))), (1, .inl (nI a0)), (2, .inl (nI (a0 + N0))), (3, .inl (nI i0))], [.inl (mu_i H 101 2)], H)) (C := [mu_is H (some 101) 10]) rfl (show mu_is H (some 101) 10 from (h.1.1.is rfl)) ?_
  rw [(show mu_i H 101 2 = (nI (n1 + 1)) from (h.size e (j := 21) (by decide) rfl).trans (congrArg nI ((congrArg Prod.fst (show U.1 21 = (U.1 21) from rfl)).trans hn1)))]
  refine mw_go mu_g203 (k := 2) (f1 := (18, [(4, .inr (.inr (some m))), (0, .inr (.inr (some 100))), (1, .inl (nI a0)), (2, .inl (nI (a0 + N0))), (3, .inl (nI i0))], [.inl ((nI (n1 + 1)) - (1 : Int32))], H)) (C := []) rfl trivial ?_
  rw [(show ((nI (n1 + 1)) - (1 : Int32)) = (nI ((n1 + 1) - 1)) from (nI_sub (a := n1 + 1) (b := 1) (by omega)))]
  refine mw_go mu_g203 (k := 2) (f1 := (22, [(5, .inl (nI ((n1 + 1) - 1))), (4, .inr (.inr (some m))), (0, .inr (.inr (some 100))), (1, .inl (nI a0)), (2, .inl (nI (a0 + N0))), (3, .inl (nI i0))], [.inl (nI ((n1 + 1) - 1))], H)) (C := []) rfl trivial ?_
  refine mw_if (P := (nI ((n1 + 1) - 1)) < 0) (a := 68) (b := 25) (fun _ => rfl) trivial (fun h1 => absurd h1 (nI_pos (by omega))) (fun h1 => ?_)
  refine mw_go mu_g203 (k := 2) (f1 := (29, [(5, .inl (nI ((n1 + 1) - 1))), (4, .inr (.inr (some m))), (0, .inr (.inr (some 100))), (1, .inl (nI a0)), (2, .inl (nI (a0 + N0))), (3, .inl (nI i0))], [.inr (.inr (mu_r H 100 1))], H)) (C := [mu_is H (some 100) 5]) rfl (show mu_is H (some 100) 5 from (h.1.1.is rfl)) ?_
  rw [(h.1.1.r (p := 100) (j := 1) (q := 101) rfl)]
  refine mw_go mu_g203 (k := 2) (f1 := (32, [(5, .inl (nI ((n1 + 1) - 1))), (4, .inr (.inr (some m))), (0, .inr (.inr (some 100))), (1, .inl (nI a0)), (2, .inl (nI (a0 + N0))), (3, .inl (nI i0))], [.inl (0 : Int32), .inl (nI ((n1 + 1) - 1)), .inr (.inr (some 101))], H)) (C := []) rfl trivial ?_
  refine mw_cIe (fun _ => rfl) (show mu_is H (some 101) 10 from (h.1.1.is rfl)) (h.getr (d := (d + 3)) e (j := 21) (by decide) rfl (nI ((n1 + 1) - 1)) (c := 0) (by decide)) ?_
  rw [show (tget (U.1 21) (nI ((n1 + 1) - 1)) 0) = ((U.1 21).2 ((n1 + 1) - 1) 0) from (congrArg (fun z => tget z (nI ((n1 + 1) - 1)) 0) (show U.1 21 = (U.1 21) from rfl)).trans (tget_nI (by omega))]
  refine mw_go mu_g203 (k := 1) (f1 := (36, [(5, .inl (nI ((n1 + 1) - 1))), (4, .inr (.inr (some m))), (0, .inr (.inr (some 100))), (1, .inl (nI a0)), (2, .inl (nI (a0 + N0))), (3, .inl (nI i0))], [.inl (nI a0), .inl ((U.1 21).2 ((n1 + 1) - 1) 0)], H)) (C := []) rfl trivial ?_
  refine mw_if (P := ((U.1 21).2 ((n1 + 1) - 1) 0) = (nI a0)) (a := 39) (b := 68) (fun _ => rfl) trivial (fun h3 => ?_) (fun h3 => ?_)
  · -- 39: ((U.1 21).2 ((n1 + 1) - 1) 0) = (nI a0)
    refine mw_go mu_g203 (k := 2) (f1 := (43, [(5, .inl (nI ((n1 + 1) - 1))), (4, .inr (.inr (some m))), (0, .inr (.inr (some 100))), (1, .inl (nI a0)), (2, .inl (nI (a0 + N0))), (3, .inl (nI i0))], [.inr (.inr (mu_r H 100 1))], H)) (C := [mu_is H (some 100) 5]) rfl (show mu_is H (some 100) 5 from (h.1.1.is rfl)) ?_
    rw [(h.1.1.r (p := 100) (j := 1) (q := 101) rfl)]
    refine mw_go mu_g203 (k := 2) (f1 := (46, [(5, .inl (nI ((n1 + 1) - 1))), (4, .inr (.inr (some m))), (0, .inr (.inr (some 100))), (1, .inl (nI a0)), (2, .inl (nI (a0 + N0))), (3, .inl (nI i0))], [.inl (1 : Int32), .inl (nI ((n1 + 1) - 1)), .inr (.inr (some 101))], H)) (C := []) rfl trivial ?_
    refine mw_cIe (fun _ => rfl) (show mu_is H (some 101) 10 from (h.1.1.is rfl)) (h.getr (d := (d + 3)) e (j := 21) (by decide) rfl (nI ((n1 + 1) - 1)) (c := 1) (by decide)) ?_
    rw [show (tget (U.1 21) (nI ((n1 + 1) - 1)) 1) = ((U.1 21).2 ((n1 + 1) - 1) 1) from (congrArg (fun z => tget z (nI ((n1 + 1) - 1)) 1) (show U.1 21 = (U.1 21) from rfl)).trans (tget_nI (by omega))]
    refine mw_go mu_g203 (k := 1) (f1 := (50, [(5, .inl (nI ((n1 + 1) - 1))), (4, .inr (.inr (some m))), (0, .inr (.inr (some 100))), (1, .inl (nI a0)), (2, .inl (nI (a0 + N0))), (3, .inl (nI i0))], [.inl (nI (a0 + N0)), .inl ((U.1 21).2 ((n1 + 1) - 1) 1)], H)) (C := []) rfl trivial ?_
    refine mw_if (P := ((U.1 21).2 ((n1 + 1) - 1) 1) = (nI (a0 + N0))) (a := 53) (b := 68) (fun _ => rfl) trivial (fun h5 => ?_) (fun h5 => ?_)
    · -- 53: ((U.1 21).2 ((n1 + 1) - 1) 1) = (nI (a0 + N0))
      refine mw_go mu_g203 (k := 2) (f1 := (57, [(5, .inl (nI ((n1 + 1) - 1))), (4, .inr (.inr (some m))), (0, .inr (.inr (some 100))), (1, .inl (nI a0)), (2, .inl (nI (a0 + N0))), (3, .inl (nI i0))], [.inr (.inr (mu_r H 100 1))], H)) (C := [mu_is H (some 100) 5]) rfl (show mu_is H (some 100) 5 from (h.1.1.is rfl)) ?_
      rw [(h.1.1.r (p := 100) (j := 1) (q := 101) rfl)]
      refine mw_go mu_g203 (k := 2) (f1 := (60, [(5, .inl (nI ((n1 + 1) - 1))), (4, .inr (.inr (some m))), (0, .inr (.inr (some 100))), (1, .inl (nI a0)), (2, .inl (nI (a0 + N0))), (3, .inl (nI i0))], [.inl (2 : Int32), .inl (nI ((n1 + 1) - 1)), .inr (.inr (some 101))], H)) (C := []) rfl trivial ?_
      refine mw_cIe (fun _ => rfl) (show mu_is H (some 101) 10 from (h.1.1.is rfl)) (h.getr (d := (d + 3)) e (j := 21) (by decide) rfl (nI ((n1 + 1) - 1)) (c := 2) (by decide)) ?_
      rw [show (tget (U.1 21) (nI ((n1 + 1) - 1)) 2) = ((U.1 21).2 ((n1 + 1) - 1) 2) from (congrArg (fun z => tget z (nI ((n1 + 1) - 1)) 2) (show U.1 21 = (U.1 21) from rfl)).trans (tget_nI (by omega))]
      refine mw_go mu_g203 (k := 1) (f1 := (64, [(5, .inl (nI ((n1 + 1) - 1))), (4, .inr (.inr (some m))), (0, .inr (.inr (some 100))), (1, .inl (nI a0)), (2, .inl (nI (a0 + N0))), (3, .inl (nI i0))], [.inl (nI i0), .inl ((U.1 21).2 ((n1 + 1) - 1) 2)], H)) (C := []) rfl trivial ?_
      refine mw_if (P := ((U.1 21).2 ((n1 + 1) - 1) 2) = (nI i0)) (a := 67) (b := 68) (fun _ => rfl) trivial (fun h7 => ?_) (fun h7 => ?_)
      · -- 67: ((U.1 21).2 ((n1 + 1) - 1) 2) = (nI i0)
        exact mw_of (fun _ => mu_ret rfl trivial ⟨H, rfl, Or.inl ⟨rfl, h3, h5, h7⟩⟩)
      · -- 68: not ((U.1 21).2 ((n1 + 1) - 1) 2) = (nI i0)
        refine mw_sub (L' := [(0, .inr (.inr (some 100))), (1, .inl (nI a0)), (2, .inl (nI (a0 + N0))), (3, .inl (nI i0)), (4, .inr (.inr (some m)))]) (by simp) ?_
        exact ld_tail (d := d) (C := C) h e hS hj hJ hi0 hr0 hpl hnx0 hnxe hord hE hcs hs22 hs3 hcl hs12 hs13 hs15 hC1 hC2 (fun H1 z => ⟨H1, rfl, Or.inr z⟩)
    · -- 68: not ((U.1 21).2 ((n1 + 1) - 1) 1) = (nI (a0 + N0))
      refine mw_sub (L' := [(0, .inr (.inr (some 100))), (1, .inl (nI a0)), (2, .inl (nI (a0 + N0))), (3, .inl (nI i0)), (4, .inr (.inr (some m)))]) (by simp) ?_
      exact ld_tail (d := d) (C := C) h e hS hj hJ hi0 hr0 hpl hnx0 hnxe hord hE hcs hs22 hs3 hcl hs12 hs13 hs15 hC1 hC2 (fun H1 z => ⟨H1, rfl, Or.inr z⟩)
  · -- 68: not ((U.1 21).2 ((n1 + 1) - 1) 0) = (nI a0)
    refine mw_sub (L' := [(0, .inr (.inr (some 100))), (1, .inl (nI a0)), (2, .inl (nI (a0 + N0))), (3, .inl (nI i0)), (4, .inr (.inr (some m)))]) (by simp) ?_
    exact ld_tail (d := d) (C := C) h e hS hj hJ hi0 hr0 hpl hnx0 hnxe hord hE hcs hs22 hs3 hcl hs12 hs13 hs15 hC1 hC2 (fun H1 z => ⟨H1, rfl, Or.inr z⟩)
end Load
