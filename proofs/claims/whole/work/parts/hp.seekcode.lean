/-! SEEKING: the pending parts of a SPEC as data -/
/-- where the parts of an operator begin on the stack -/
def bse (Y : Ts) (a n : Nat) : Nat := tpz Y a n - plen (oc Y (a + n)) (oa Y (a + n))
/-- where an pending part begins in the code, and where it ends -/
def spz (Y : Ts) (a : Nat) : Nat → Nat → Nat
  | 0, _ => 0
  | n + 1, k => if k = bse Y a n ∧ plen (oc Y (a + n)) (oa Y (a + n)) = 0 then n else spz Y a n k
def epz (Y : Ts) (a n k : Nat) : Nat := if k + 1 < tpz Y a n then spz Y a n (k + 1) else n
/-- has an pending part a timed operator -/
def TMZ (Y : Ts) (a : Nat) : Nat → Nat → Prop
  | 0, _ => False
  | n + 1, k => if k = bse Y a n then (tmd (oc Y (a + n)) ∨ ∃ q, bse Y a n ≤ q ∧ q < tpz Y a n ∧ TMZ Y a n q) else TMZ Y a n k
/-- the STATES that have an pending part; lv: what the leaves are in a STATE -/
def CTS (Y : Ts) (G : Nat → Nat → Prop) (E Fr : Nat → Prop) (nf : Nat) (Fs : Nat → Nat → Prop) (lv : Nat → Nat → Int32) (a : Nat) : Nat → Nat → Nat → Prop
  | 0, _, _ => False
  | n + 1, k, s => if k = bse Y a n then ((TMZ Y a (n + 1) k ∧ ctl G E Fr nf Fs (oc Y (a + n)) (CTS Y G E Fr nf Fs lv a n (bse Y a n)) (CTS Y G E Fr nf Fs lv a n (tpz Y a n - 1)) s) ∨ (¬ TMZ Y a (n + 1) k ∧ svz Y (lv s) a (n + 1) k = 1)) else CTS Y G E Fr nf Fs lv a n k s
/-- no operator finds fewer parts than it has -/
def PLN (Y : Ts) (a N : Nat) : Prop := ∀ n, n < N → plen (oc Y (a + n)) (oa Y (a + n)) ≤ tpz Y a n
section SeekCode
variable {Y : Ts} {a n N k x b s i nf : Nat} {G Fs : Nat → Nat → Prop} {E Fr : Nat → Prop} {lv : Nat → Nat → Int32} {es rs : Nat → Int32} {al : Int32} {kd : Bool}
theorem tpz_bs : tpz Y a (n + 1) = bse Y a n + 1 := rfl
theorem tpz_le : ∀ n, tpz Y a n ≤ n
  | 0 => Nat.le_refl _
  | n + 1 => by
    have := tpz_le n
    show tpz Y a n - plen (oc Y (a + n)) (oa Y (a + n)) + 1 ≤ n + 1
    omega
theorem spz_b : spz Y a (n + 1) k = if k = bse Y a n ∧ plen (oc Y (a + n)) (oa Y (a + n)) = 0 then n else spz Y a n k := rfl
theorem bse_le (h : PLN Y a N) (hn : n < N) : bse Y a n + plen (oc Y (a + n)) (oa Y (a + n)) = tpz Y a n := by
  have := h n hn
  unfold bse
  omega
/-- a part begins where the stack is as high as its place, and stays higher -/
theorem spz_at (h : PLN Y a N) : ∀ n, n ≤ N → ∀ k, k < tpz Y a n → spz Y a n k < n ∧ tpz Y a (spz Y a n k) = k ∧ ∀ x, spz Y a n k < x → x ≤ n → k + 1 ≤ tpz Y a x
  | 0, _, k, hk => absurd hk (Nat.not_lt_zero k)
  | n + 1, hn, k, hk => by
    have ih := spz_at h n (by omega)
    have hb := bse_le h (show n < N by omega)
    have hk : k < bse Y a n + 1 := hk
    rw [spz_b]
    by_cases c : k = bse Y a n ∧ plen (oc Y (a + n)) (oa Y (a + n)) = 0
    · rw [if_pos c]
      refine ⟨Nat.lt_succ_self n, by omega, fun x x1 x2 => ?_⟩
      rw [show x = n + 1 by omega, tpz_bs]
      omega
    · rw [if_neg c]
      have hkn : k < tpz Y a n := by
        by_cases e : k = bse Y a n
        · have : ¬ plen (oc Y (a + n)) (oa Y (a + n)) = 0 := fun y => c ⟨e, y⟩
          omega
        · omega
      obtain ⟨i1, i2, i3⟩ := ih k hkn
      refine ⟨by omega, i2, fun x x1 x2 => ?_⟩
      by_cases e : x ≤ n
      · exact i3 x x1 e
      · rw [show x = n + 1 by omega, tpz_bs]
        omega
theorem epz_at (h : PLN Y a N) (hn : n ≤ N) (hk : k < tpz Y a n) : spz Y a n k < epz Y a n k ∧ epz Y a n k ≤ n ∧ tpz Y a (epz Y a n k) = k + 1 ∧ ∀ x, epz Y a n k < x → x ≤ n → k + 2 ≤ tpz Y a x := by
  obtain ⟨i1, i2, i3⟩ := spz_at h n hn k hk
  unfold epz
  by_cases c : k + 1 < tpz Y a n
  · rw [if_pos c]
    obtain ⟨j1, j2, j3⟩ := spz_at h n hn (k + 1) c
    refine ⟨?_, by omega, j2, j3⟩
    rcases Nat.lt_trichotomy (spz Y a n k) (spz Y a n (k + 1)) with y | y | y
    · exact y
    · rw [← y, i2] at j2; omega
    · have := j3 (spz Y a n k) y (by omega)
      omega
  · rw [if_neg c]
    exact ⟨i1, Nat.le_refl n, by omega, fun x x1 x2 => by omega⟩
theorem part_sbc (h : PLN Y a N) (hn : n ≤ N) (hk : k < tpz Y a n) : SBC Y a (spz Y a n k) (epz Y a n k) := by
  obtain ⟨i1, i2, i3⟩ := spz_at h n hn k hk
  obtain ⟨j1, j2, j3, j4⟩ := epz_at h hn hk
  refine ⟨by omega, fun x hx => h x (by omega), fun x x1 x2 => ?_⟩
  rw [i2]
  exact i3 x x1 (by omega)
/-- a part is closed code -/
theorem part_rg {M : Nat} (hr : rg Y i kd a (a + M)) (h : PLN Y a M) (hn : n ≤ M) (hk : k < tpz Y a n) : ∃ kd', rg Y i kd' (a + spz Y a n k) (a + spz Y a n k + (epz Y a n k - spz Y a n k)) := by
  obtain ⟨r1, r2, r3, r4⟩ := hr
  rw [show a + M - a = M by omega] at r3
  obtain ⟨i1, i2, i3⟩ := spz_at h n hn k hk
  obtain ⟨j1, j2, j3, j4⟩ := epz_at h hn hk
  have hS := part_sbc h hn hk
  obtain ⟨Le, hLe⟩ := kst_le r3 (show epz Y a n k ≤ M by omega)
  obtain ⟨R, hR⟩ := kst_le r3 (show spz Y a n k ≤ M by omega)
  obtain ⟨L', h1, h2⟩ := hS.ks hLe hR (epz Y a n k - spz Y a n k) (by omega)
  have hl := kst_tp h1
  have ht := hS.tp (epz Y a n k - spz Y a n k) (by omega)
  rw [show spz Y a n k + (epz Y a n k - spz Y a n k) = epz Y a n k by omega] at ht
  have hl1 : L'.length = 1 := by omega
  match L', hl1, h1 with
  | [kd'], _, h1 =>
    refine ⟨kd', by omega, by omega, ?_, fun p p1 p2 hp => r4 p (by omega) (by omega) hp⟩
    rw [show a + spz Y a n k + (epz Y a n k - spz Y a n k) - (a + spz Y a n k) = epz Y a n k - spz Y a n k by omega]
    exact h1
/-- the value of a part by itself -/
theorem part_sv {lw : Nat → Int32} (h : PLN Y a N) (hE : ∀ n, n < N → oc Y (a + n) < 32) (hn : n ≤ N) (hk : k < tpz Y a n) : svz Y lw (a + spz Y a n k) (epz Y a n k - spz Y a n k) 0 = svz Y lw a n k := by
  obtain ⟨i1, i2, i3⟩ := spz_at h n hn k hk
  obtain ⟨j1, j2, j3, j4⟩ := epz_at h hn hk
  have hS := part_sbc h hn hk
  have ht := hS.tp (epz Y a n k - spz Y a n k) (by omega)
  rw [show spz Y a n k + (epz Y a n k - spz Y a n k) = epz Y a n k by omega] at ht
  rw [hS.sv (fun x hx => hE x (by omega)) (epz Y a n k - spz Y a n k) (by omega) 0 (by omega), show spz Y a n k + (epz Y a n k - spz Y a n k) = epz Y a n k by omega, i2, Nat.zero_add]
  have hS2 : SBC Y a (epz Y a n k) n := ⟨j2, fun x hx => h x (by omega), fun x x1 x2 => by rw [j3]; exact j4 x x1 x2⟩
  have := hS2.lo (lv := lw) (n - epz Y a n k) (by omega) k (by omega)
  rw [show epz Y a n k + (n - epz Y a n k) = n by omega] at this
  exact this.symm
theorem tmz_b : TMZ Y a (n + 1) k = if k = bse Y a n then (tmd (oc Y (a + n)) ∨ ∃ q, bse Y a n ≤ q ∧ q < tpz Y a n ∧ TMZ Y a n q) else TMZ Y a n k := rfl
theorem tmz_new : TMZ Y a (n + 1) (bse Y a n) ↔ (tmd (oc Y (a + n)) ∨ ∃ q, bse Y a n ≤ q ∧ q < tpz Y a n ∧ TMZ Y a n q) := by
  rw [tmz_b, if_pos rfl]
theorem tmz_old (hk : ¬ k = bse Y a n) : TMZ Y a (n + 1) k ↔ TMZ Y a n k := by
  rw [tmz_b, if_neg hk]
theorem spz_old (hk : ¬ k = bse Y a n) : spz Y a (n + 1) k = spz Y a n k := by
  rw [spz_b, if_neg (fun y => hk y.1)]
theorem epz_old (h : PLN Y a N) (hn : n < N) (hk : k < bse Y a n) : epz Y a (n + 1) k = epz Y a n k := by
  have hb := bse_le h hn
  unfold epz
  rw [tpz_bs, if_pos (by omega), spz_b]
  by_cases c : k + 1 = bse Y a n ∧ plen (oc Y (a + n)) (oa Y (a + n)) = 0
  · rw [if_pos c, if_neg (by omega)]
  · rw [if_neg c]
    by_cases e : k + 1 < tpz Y a n
    · rw [if_pos e]
    · exact absurd (show k + 1 = bse Y a n ∧ plen (oc Y (a + n)) (oa Y (a + n)) = 0 from ⟨by omega, by omega⟩) c
theorem epz_new : epz Y a (n + 1) (bse Y a n) = n + 1 := by
  unfold epz
  rw [tpz_bs, if_neg (by omega)]
/-- each operator behind a part's beginning belongs to it or to a later part -/
theorem in_part (h : PLN Y a N) (hn : n ≤ N) : ∀ d b, b + d + 1 = tpz Y a n → ∀ x, spz Y a n b ≤ x → x < n → ∃ q, b ≤ q ∧ q < tpz Y a n ∧ spz Y a n q ≤ x ∧ x < epz Y a n q
  | 0, b, hb, x, h1, h2 => ⟨b, Nat.le_refl b, by omega, h1, by unfold epz; rw [if_neg (by omega)]; exact h2⟩
  | d + 1, b, hb, x, h1, h2 => by
    by_cases c : spz Y a n (b + 1) ≤ x
    · obtain ⟨q, q1, q2, q3, q4⟩ := in_part h hn d (b + 1) (by omega) x c h2
      exact ⟨q, by omega, q2, q3, q4⟩
    · refine ⟨b, Nat.le_refl b, by omega, h1, ?_⟩
      unfold epz
      rw [if_pos (by omega)]
      omega
/-- a part without timed operators -/
theorem part_plain (h : PLN Y a N) : ∀ n, n ≤ N → ∀ k, k < tpz Y a n → ¬ TMZ Y a n k → ∀ x, spz Y a n k ≤ x → x < epz Y a n k → ¬ tmd (oc Y (a + x))
  | 0, _, k, hk, _, _, _, _ => absurd hk (Nat.not_lt_zero k)
  | n + 1, hn, k, hk, ht, x, h1, h2 => by
    have ih := part_plain h n (by omega)
    have hb := bse_le h (show n < N by omega)
    have hk : k < bse Y a n + 1 := hk
    by_cases e : k = bse Y a n
    · rw [e] at ht h1 h2
      rw [epz_new] at h2
      have hno := fun y => ht (tmz_new.mpr y)
      by_cases ex : x = n
      · rw [ex]; exact fun y => hno (Or.inl y)
      · rw [spz_b] at h1
        by_cases c : bse Y a n = bse Y a n ∧ plen (oc Y (a + n)) (oa Y (a + n)) = 0
        · rw [if_pos c] at h1; omega
        · rw [if_neg c] at h1
          have hp : ¬ plen (oc Y (a + n)) (oa Y (a + n)) = 0 := fun y => c ⟨rfl, y⟩
          obtain ⟨q, q1, q2, q3, q4⟩ := in_part h (show n ≤ N by omega) (tpz Y a n - bse Y a n - 1) (bse Y a n) (by omega) x h1 (by omega)
          exact ih q q2 (fun y => hno (Or.inr ⟨q, q1, q2, y⟩)) x q3 q4
    · rw [spz_old e] at h1
      rw [epz_old h (by omega) (by omega)] at h2
      exact ih k (by omega) (fun y => ht ((tmz_old e).mpr y)) x h1 h2
theorem srt_plain (hs : SRT Y es i 2 a rs N) (hn : ∀ n, n < N → ¬ tmd (oc Y (a + n))) : SRT Y es i 0 a rs N := by
  intro n h
  obtain ⟨h1, h2, h3⟩ := hs n h
  refine ⟨h1, fun y => ?_, fun y => ?_⟩
  · rcases h2 y with z | z | ⟨z1, z2, z3⟩
    · exact Or.inl z
    · exact Or.inr (Or.inl z)
    · exact Or.inr (Or.inr ⟨z1, fun w => absurd (z2 w).2 (by decide), z3⟩)
  · rcases h3 y with z | z
    · exact absurd z.1 (hn n h)
    · exact Or.inr z
/-- the value of a part by itself, in a SORT -/
theorem part_srt (h : PLN Y a N) (hs : SRT Y es i 2 a rs N) (hn : n ≤ N) (hk : k < tpz Y a n) (ht : ¬ TMZ Y a n k) : SRT Y es i 0 (a + spz Y a n k) (fun x => rs (spz Y a n k + x)) (epz Y a n k - spz Y a n k) := by
  obtain ⟨j1, j2, j3, j4⟩ := epz_at h hn hk
  have hS := part_sbc h hn hk
  refine srt_plain (hS.srt (n := epz Y a n k - spz Y a n k) (fun x hx => hs x (by omega)) (by omega)) (fun x hx => ?_)
  have := part_plain h n hn k hk ht (spz Y a n k + x) (by omega) (by omega)
  rw [← Nat.add_assoc] at this
  exact this
theorem cts_old (hk : ¬ k = bse Y a n) : CTS Y G E Fr nf Fs lv a (n + 1) k s ↔ CTS Y G E Fr nf Fs lv a n k s := by
  show (if k = bse Y a n then _ else CTS Y G E Fr nf Fs lv a n k s) ↔ _
  rw [if_neg hk]
theorem cts_new (ht : TMZ Y a (n + 1) (bse Y a n)) : CTS Y G E Fr nf Fs lv a (n + 1) (bse Y a n) s ↔ ctl G E Fr nf Fs (oc Y (a + n)) (CTS Y G E Fr nf Fs lv a n (bse Y a n)) (CTS Y G E Fr nf Fs lv a n (tpz Y a n - 1)) s := by
  show (if bse Y a n = bse Y a n then ((TMZ Y a (n + 1) (bse Y a n) ∧ _) ∨ (¬ TMZ Y a (n + 1) (bse Y a n) ∧ _)) else _) ↔ _
  rw [if_pos rfl]
  exact ⟨fun y => (y.resolve_right (fun z => z.1 ht)).2, fun y => Or.inl ⟨ht, y⟩⟩
theorem svz_old {lw : Nat → Int32} (hk : ¬ k = bse Y a n) : svz Y lw a (n + 1) k = svz Y lw a n k := by
  show (if k = bse Y a n then _ else svz Y lw a n k) = _
  rw [if_neg hk]
theorem cts_plain : ∀ n k, k < tpz Y a n → ¬ TMZ Y a n k → (CTS Y G E Fr nf Fs lv a n k s ↔ svz Y (lv s) a n k = 1)
  | 0, k, hk, _ => absurd hk (Nat.not_lt_zero k)
  | n + 1, k, hk, ht => by
    have hk : k < bse Y a n + 1 := hk
    by_cases e : k = bse Y a n
    · show (if k = bse Y a n then ((TMZ Y a (n + 1) k ∧ _) ∨ (¬ TMZ Y a (n + 1) k ∧ _)) else _) ↔ _
      rw [if_pos e]
      exact ⟨fun y => (y.resolve_left (fun z => ht z.1)).2, fun y => Or.inr ⟨ht, y⟩⟩
    · rw [cts_old e, svz_old e]
      exact cts_plain n k (by unfold bse at hk e; omega) (fun y => ht ((tmz_old e).mpr y))
/-- how many timed parts are pending: no more than the SPEC is high -/
theorem tm_count {hg : Nat → Nat → Nat} {h0 : Nat} (h : PLN Y a N) (hup : ∀ n, n < N → ∀ q, bse Y a n ≤ q → q < tpz Y a n → hg n q + 1 ≤ hg (n + 1) (bse Y a n)) (hst : ∀ n, n < N → ∀ k, k < bse Y a n → hg (n + 1) k = hg n k) (htop : ∀ k, k < tpz Y a N → k = 0 ∧ hg N k ≤ h0) (htwo : ∀ n, n < N → (∃ q, bse Y a n ≤ q ∧ q < tpz Y a n ∧ TMZ Y a n q) → plen (oc Y (a + n)) (oa Y (a + n)) ≤ 2) : ∀ d n, n + d = N → ∀ k, k < tpz Y a n → ctn (TMZ Y a n) k + hg n k ≤ h0
  | 0, n, hd, k, hk => by
    rw [show n = N by omega] at hk ⊢
    obtain ⟨k1, k2⟩ := htop k hk
    rw [k1] at k2 ⊢
    show 0 + hg N 0 ≤ h0
    omega
  | d + 1, n, hd, k, hk => by
    have ih := tm_count h hup hst htop htwo d (n + 1) (by omega)
    have hb := bse_le h (show n < N by omega)
    have hc : ∀ j, j ≤ bse Y a n → ctn (TMZ Y a (n + 1)) j = ctn (TMZ Y a n) j := fun j => by
      induction j with
      | zero => exact fun _ => rfl
      | succ j ihj =>
        intro hj
        show ctn (TMZ Y a (n + 1)) j + @ite Nat (TMZ Y a (n + 1) j) (Classical.propDecidable _) 1 0 = ctn (TMZ Y a n) j + @ite Nat (TMZ Y a n j) (Classical.propDecidable _) 1 0
        rw [ihj (by omega)]
        have e : TMZ Y a (n + 1) j ↔ TMZ Y a n j := tmz_old (by omega)
        by_cases y : TMZ Y a n j
        · rw [if_pos y, if_pos (e.mpr y)]
        · rw [if_neg y, if_neg (fun z => y (e.mp z))]
    by_cases c : k < bse Y a n
    · have := ih k (by rw [tpz_bs]; omega)
      rw [hc k (by omega), hst n (by omega) k c] at this
      exact this
    · have h1 := ih (bse Y a n) (by rw [tpz_bs]; omega)
      rw [hc _ (Nat.le_refl _)] at h1
      have h2 := hup n (by omega) k (by omega) hk
      have h3 : ctn (TMZ Y a n) k ≤ ctn (TMZ Y a n) (bse Y a n) + 1 := by
        by_cases e : k = bse Y a n
        · rw [e]; omega
        · by_cases y : ∃ q, bse Y a n ≤ q ∧ q < tpz Y a n ∧ TMZ Y a n q
          · have := htwo n (by omega) y
            have e2 : k = bse Y a n + 1 := by omega
            rw [e2]
            show ctn (TMZ Y a n) (bse Y a n) + @ite Nat (TMZ Y a n (bse Y a n)) (Classical.propDecidable _) 1 0 ≤ _
            by_cases z : TMZ Y a n (bse Y a n)
            · rw [if_pos z]; exact Nat.le_refl _
            · rw [if_neg z]; omega
          · have key : ∀ d, bse Y a n + d ≤ tpz Y a n → ctn (TMZ Y a n) (bse Y a n + d) = ctn (TMZ Y a n) (bse Y a n) := fun d => by
              induction d with
              | zero => exact fun _ => rfl
              | succ d ihd =>
                intro hd2
                show ctn (TMZ Y a n) (bse Y a n + d) + @ite Nat (TMZ Y a n (bse Y a n + d)) (Classical.propDecidable _) 1 0 = _
                rw [if_neg (fun z => y ⟨bse Y a n + d, by omega, by omega, z⟩), ihd (by omega)]
                rfl
            have := key (k - bse Y a n) (by omega)
            rw [show bse Y a n + (k - bse Y a n) = k by omega] at this
            omega
      omega
/-- a timed part has the SORT of timed parts -/
theorem tmz_9 (h : PLN Y a N) (hev : ∀ n, n < N → oc Y (a + n) = 31 ∨ oc Y (a + n) = 34 → ∃ c, plen (oc Y (a + n)) (oa Y (a + n)) = 2 * c) (hs : SRT Y es i al a rs N) : ∀ n, n ≤ N → ∀ k, k < tpz Y a n → TMZ Y a n k → stk Y rs a n k = 9
  | 0, _, k, hk, _ => absurd hk (Nat.not_lt_zero k)
  | n + 1, hn, k, hk, ht => by
    have ih := tmz_9 h hev hs n (by omega)
    have hb := bse_le h (show n < N by omega)
    have hk : k < bse Y a n + 1 := hk
    by_cases e : k = bse Y a n
    · rw [e] at ht ⊢
      show (if bse Y a n = bse Y a n then rs n else _) = 9
      rw [if_pos rfl]
      obtain ⟨s1, s2, s3⟩ := hs n (by omega)
      by_cases p0 : plen (oc Y (a + n)) (oa Y (a + n)) = 0
      · exfalso
        rcases tmz_new.mp ht with z | ⟨q, q1, q2, q3⟩
        · unfold plen at p0
          unfold tmd at z
          rw [if_neg (by omega)] at p0
          by_cases c1 : (9 ≤ oc Y (a + n) ∧ oc Y (a + n) ≤ 15) ∨ oc Y (a + n) = 27 ∨ oc Y (a + n) = 32
          · rw [if_pos c1] at p0; omega
          · rw [if_neg c1, if_neg (by omega), if_neg (by omega), if_neg (by omega), if_neg (by omega)] at p0
            omega
        · omega
      · have hj := s3 (by omega)
        rcases hj with ⟨j1, j2, j3, j4⟩ | ⟨j1, j2, j3⟩ | ⟨j1, j2, j3⟩ | ⟨j1, j2, j3, j4⟩ | ⟨j1, j2, j3, j4⟩ | ⟨j1, j2, j3⟩
        · exact j3
        · rcases tmz_new.mp ht with z | ⟨q, q1, q2, q3⟩
          · exact absurd z j1.1
          · rcases j3 with ⟨-, y⟩ | y
            · have := y q q1 (by unfold bse at hb; omega)
              rw [ih q q2 q3] at this
              exact absurd this (by decide)
            · exact y.1
        · exfalso
          rcases tmz_new.mp ht with z | ⟨q, q1, q2, q3⟩
          · unfold tmd at z; omega
          · obtain ⟨c, hc⟩ := hev n (by omega) j1
            have h9 := ih q q2 q3
            have hq : q - bse Y a n < 2 * c := by omega
            have e1 := j3 ((q - bse Y a n) / 2) (by show bse Y a n + 2 * ((q - bse Y a n) / 2) + 1 < bse Y a n + plen (oc Y (a + n)) (oa Y (a + n)); omega)
            by_cases ev : (q - bse Y a n) % 2 = 0
            · have e2 : stk Y rs a n q = 1 := by
                have := e1.1
                rw [show tpz Y a n - plen (oc Y (a + n)) (oa Y (a + n)) + 2 * ((q - bse Y a n) / 2) = q by show bse Y a n + 2 * ((q - bse Y a n) / 2) = q; omega] at this
                exact this
              rw [h9] at e2
              exact absurd e2 (by decide)
            · have e2 : stk Y rs a n q = rs n := by
                have := e1.2
                rw [show tpz Y a n - plen (oc Y (a + n)) (oa Y (a + n)) + 2 * ((q - bse Y a n) / 2) + 1 = q by show bse Y a n + 2 * ((q - bse Y a n) / 2) + 1 = q; omega] at this
                exact this
              exact j2 (e2.symm.trans h9)
        · exfalso
          rcases tmz_new.mp ht with z | ⟨q, q1, q2, q3⟩
          · unfold tmd at z; omega
          · exact j2 ((j3 q q1 (by unfold bse at hb; omega)).symm.trans (ih q q2 q3))
        · exfalso
          rcases tmz_new.mp ht with z | ⟨q, q1, q2, q3⟩
          · unfold tmd at z; omega
          · exact j2 ((j3 q q1 (by unfold bse at hb; omega)).symm.trans (ih q q2 q3))
        · exfalso
          rcases tmz_new.mp ht with z | ⟨q, q1, q2, q3⟩
          · unfold tmd at z; omega
          · have := (j2 q q1 (by unfold bse at hb; omega)).symm.trans (ih q q2 q3)
            exact absurd this (by decide)
    · show (if k = bse Y a n then rs n else stk Y rs a n k) = 9
      rw [if_neg e]
      exact ih k (by omega) ((tmz_old e).mp ht)
/-- an operator with timed parts that is not timed itself joins truths -/
theorem tm_op (h : PLN Y a N) (hev : ∀ n, n < N → oc Y (a + n) = 31 ∨ oc Y (a + n) = 34 → ∃ c, plen (oc Y (a + n)) (oa Y (a + n)) = 2 * c) (hs : SRT Y es i al a rs N) (hn : n < N) (hp : 1 ≤ plen (oc Y (a + n)) (oa Y (a + n))) (ht : TMZ Y a (n + 1) (bse Y a n)) : tmd (oc Y (a + n)) ∨ (4 ≤ oc Y (a + n) ∧ oc Y (a + n) ≤ 9) := by
  have h9 := tmz_9 h hev hs (n + 1) (by omega) (bse Y a n) (by rw [tpz_bs]; omega) ht
  have e : stk Y rs a (n + 1) (bse Y a n) = rs n := by
    show (if bse Y a n = bse Y a n then rs n else _) = _
    rw [if_pos rfl]
  rw [e] at h9
  rcases (hs n hn).2.2 hp with ⟨j1, -⟩ | ⟨j1, -, -⟩ | ⟨j1, j2, j3⟩ | ⟨j1, j2, j3, j4⟩ | ⟨j1, j2, j3, j4⟩ | ⟨j1, j2, j3⟩
  · exact Or.inl j1
  · right
    refine ⟨?_, j1.2⟩
    have := plen_3 hp
    omega
  · exact absurd h9 j2
  · rw [h9] at j4; exact absurd j4 (by decide)
  · rw [h9] at j4; exact absurd j4.symm j2
  · rw [h9] at j3
    by_cases c : 22 ≤ oc Y (a + n)
    · rw [if_pos c] at j3; exact absurd j3 (by decide)
    · rw [if_neg c] at j3; exact absurd j3 (by decide)
theorem tmd_two (ht : tmd (oc Y (a + n)) ∨ (4 ≤ oc Y (a + n) ∧ oc Y (a + n) ≤ 9)) : plen (oc Y (a + n)) (oa Y (a + n)) = 1 ∨ plen (oc Y (a + n)) (oa Y (a + n)) = 2 := by
  unfold tmd at ht
  unfold plen
  rw [if_neg (by omega)]
  by_cases c1 : (9 ≤ oc Y (a + n) ∧ oc Y (a + n) ≤ 15) ∨ oc Y (a + n) = 27 ∨ oc Y (a + n) = 32
  · rw [if_pos c1]; exact Or.inl rfl
  · rw [if_neg c1, if_neg (by omega), if_neg (by omega), if_neg (by omega), if_neg (by omega)]
    exact Or.inr rfl
end SeekCode
