/-! RELATION: extend, spell: the STATES that the options leave -/
section Extend
variable {H : mu_H} {U V : Ud} {m d dep P n k j q r N us nf s t a x y st fre nb b : Nat} {C : Nat → Nat} {bo : Nat → Nat → Nat} {f dg dg' lc on : Nat → Nat} {tm : Nat → Int32} {oc : Nat → Nat} {ol : Nat → Nat → Nat} {S : Nat → Nat → Bool} {z : Nat → Nat} {p : Nat → Bool} {L : Nat → Int64} {Q : Nat → Prop}
def F280 : Uf := ⟨[], [], [(129, 10), (129, 16)], [], [], false⟩
/-- what stands while STATES are listed -/
def EXS (V : Ud) (m P : Nat) (f : Nat → Nat) (fre N us : Nat) (S : Nat → Nat → Bool) (z : Nat → Nat) (p : Nat → Bool) (nf : Nat) (tm : Nat → Int32) (lc oc on : Nat → Nat) (ol : Nat → Nat → Nat) (L : Nat → Int64) (nb : Nat) (bo : Nat → Nat → Nat) (b : Nat) : Prop :=
  spx m V P f ∧ SOK V N us S z p ∧ ((V.1 24).1 = nf ∧ nf ≤ 67108864) ∧ CHN V P nf lc ∧ (∀ r, r < nf → pm (tm r) f P ≤ 67108864 ∧ (lc r < P → ∀ j, lc r < j → j < P → mb (tm r) j = 0)) ∧ (∀ r, r < nf → (V.1 24).2 r 1 = tm r ∧ (fin nb bo b 0 nf r → (V.1 24).2 r 3 = nI (oc r) ∧ oc r < N ∧ p (oc r) = true)) ∧
  (∀ j, j < fre → (V.2.2.1 129 13).2 j = nI (on j) ∧ (∀ i, i < on j → (V.2.2.1 129 12).2 (sm f 0 j + i) = nI (ol j i)) ∧ (∀ i i', i < i' → i' < on j → ol j i < ol j i') ∧ ∀ i, i < on j → ol j i < f j) ∧
  ((sm f 0 P ≤ (V.2.2.1 129 12).1 ∧ (V.2.2.1 129 12).1 < 2147483648) ∧ pd f 0 P + 4 ≤ (V.2.2.1 129 10).1 ∧ (V.2.2.1 129 10).1 < 2147483648) ∧ ((V.2.1 129 21 = nI b ∧ BIN nb b ∧ BOK nb bo 0 nf ∧ BRT V nb bo) ∧ fre ≤ P) ∧ V.2.2.2.2.1 124 = L
theorem EXS.fr (h : EXS U m P f fre N us S z p nf tm lc oc on ol L nb bo b) (hq : uq F280 U V) : EXS V m P f fre N us S z p nf tm lc oc on ol L nb bo b := by
  obtain ⟨h1, h2, h3, h4, h5, h6, h7, h8, h9, h10⟩ := h
  refine ⟨spx_keep h1 (hq.i 99 4 rfl) (hq.i 99 10 rfl) (hq.i 99 11 rfl) (hq.i 99 12 rfl) (hq.a 99 5 rfl) (hq.a 99 7 rfl) (hq.a 99 6 rfl) (hq.n 99 8 rfl) (hq.n 99 18 rfl) (hq.r 100 0 rfl) (hq.r 99 0 rfl), h2.q hq rfl rfl rfl rfl rfl rfl, by rw [hq.t 24 rfl]; exact h3, ?_, h5, fun r hr => by rw [hq.t 24 rfl]; exact h6 r hr, fun j hj => by rw [hq.a 129 13 rfl, hq.a 129 12 rfl]; exact h7 j hj, by rw [hq.n 129 12 rfl, hq.n 129 10 rfl]; exact h8, ⟨⟨(hq.i 129 21 rfl).trans h9.1.1, h9.1.2.1, h9.1.2.2.1, h9.1.2.2.2.eq (hq.t 27 rfl)⟩, h9.2⟩, (hq.l 124 rfl).trans h10⟩
  unfold CHN at h4 ⊢
  rw [hq.a 129 15 rfl, hq.t 24 rfl]
  exact h4
/-- what a STATE's digit at a place must be -/
def CKJ (P : Nat) (f : Nat → Nat) (S : Nat → Nat → Bool) (nf : Nat) (tm : Nat → Int32) (lc oc on : Nat → Nat) (ol : Nat → Nat → Nat) (nb : Nat) (bo : Nat → Nat → Nat) (b j t : Nat) : Prop := lmz (ol j) (on j) (dgzU f P t j) = true ∧ ∀ r, r < nf → lc r = j → fin nb bo b 0 nf r → S (oc r) (ixz (tm r) f (dgzU f P t) P) = true
def QQ (P : Nat) (f : Nat → Nat) (fre : Nat) (S : Nat → Nat → Bool) (nf : Nat) (tm : Nat → Int32) (lc oc on : Nat → Nat) (ol : Nat → Nat → Nat) (L : Nat → Int64) (nb : Nat) (bo : Nat → Nat → Nat) (b t : Nat) : Prop := bts L t = true ∧ ∀ j, j < fre → CKJ P f S nf tm lc oc on ol nb bo b j t
/-- the list so far: all below st -/
def LSO (V : Ud) (n st : Nat) (Q : Nat → Prop) : Prop := ∃ ls : Nat → Nat, (∀ i, i < n → (V.2.2.1 129 10).2 i = nI (ls i)) ∧ (∀ i j, i < j → j < n → ls i < ls j) ∧ ∀ x, lmz ls n x = true ↔ x < st ∧ Q x
theorem LSO.le (h : LSO V n st Q) : n ≤ st := by
  obtain ⟨ls, _, h2, h3⟩ := h
  exact lm_len h2 h3
theorem LSO.gap (h : LSO V n st Q) (hy : st ≤ y) (hn : ∀ t, st ≤ t → t < y → ¬ Q t) : LSO V n y Q := by
  obtain ⟨ls, h1, h2, h3⟩ := h
  refine ⟨ls, h1, h2, fun x => ?_⟩
  rw [h3 x]
  constructor
  · rintro ⟨a, b⟩
    exact ⟨by omega, b⟩
  · rintro ⟨a, b⟩
    by_cases e : x < st
    · exact ⟨e, b⟩
    · exact absurd b (hn x (by omega) a)
theorem LSO.eq (h : LSO U n st Q) (e : V.2.2.1 129 10 = U.2.2.1 129 10) : LSO V n st Q := by
  unfold LSO at h ⊢
  rw [e]
  exact h
theorem LSO.put (h : LSO V n t Q) (hq : Q t) : LSO (upA V 129 10 n (nI t)) (n + 1) (t + 1) Q := by
  have hle := h.le
  obtain ⟨ls, h1, h2, h3⟩ := h
  have hlt : ∀ i, i < n → ls i < t := fun i hi => ((h3 (ls i)).mp ((lmz_iff n).mpr ⟨i, hi, rfl⟩)).1
  refine ⟨fun i => if i = n then t else ls i, fun i hi => ?_, fun i j hi hj => ?_, fun x => ?_⟩
  · show (if i = n then nI t else (V.2.2.1 129 10).2 i) = nI (if i = n then t else ls i)
    by_cases e : i = n
    · rw [if_pos e, if_pos e]
    · rw [if_neg e, if_neg e]
      exact h1 i (by omega)
  · show (if i = n then t else ls i) < (if j = n then t else ls j)
    rw [if_neg (by omega)]
    by_cases e : j = n
    · rw [if_pos e]
      exact hlt i (by omega)
    · rw [if_neg e]
      exact h2 i j hi (by omega)
  · have e0 : lmz (fun i => if i = n then t else ls i) n = lmz ls n := lmz_congr (fun i hi => if_neg (by omega))
    show (lmz (fun i => if i = n then t else ls i) n x || decide ((if n = n then t else ls n) = x)) = true ↔ _
    rw [e0, if_pos rfl, Bool.or_eq_true, h3 x, decide_eq_true_iff]
    constructor
    · rintro (⟨a, b⟩ | a)
      · exact ⟨by omega, b⟩
      · exact ⟨by omega, a ▸ hq⟩
    · rintro ⟨a, b⟩
      by_cases e : t = x
      · exact Or.inr e
      · exact Or.inl ⟨by omega, b⟩
theorem LSO.skip (h : LSO V n t Q) (hq : ¬ Q t) : LSO (upA V 129 10 n (nI t)) n (t + 1) Q := by
  obtain ⟨ls, h1, h2, h3⟩ := h
  refine LSO.gap (st := t) ⟨ls, fun i hi => ?_, h2, h3⟩ (by omega) (fun x h4 h5 => by rw [show x = t by omega]; exact hq)
  show (if i = n then nI t else (V.2.2.1 129 10).2 i) = nI (ls i)
  rw [if_neg (by omega)]
  exact h1 i hi
theorem LSO.bit (h : LSO V n t Q) (hq : bts L t = true ↔ Q t) : LSO (upA V 129 10 n (nI t)) (n + if bts L t = true then 1 else 0) (t + 1) Q := by
  by_cases e : bts L t = true
  · rw [if_pos e]
    exact h.put (hq.mp e)
  · rw [if_neg e]
    exact h.skip (fun y => e (hq.mpr y))
/-- what extend answers -/
def EXP (C : Nat → Nat) (m : Nat) (P : Nat) (f : Nat → Nat) (H : mu_H) (U : Ud) (k st : Nat) (dg : Nat → Nat) (Q : Nat → Prop) (x : Int32) (H1 : mu_H) : Prop := ∃ n', x = nI n' ∧ um m H1 ∧ ur m C H H1 ∧ uq F280 U (ud m H1) ∧ LSO (ud m H1) n' (st + Bk f P k) Q ∧ ∃ dg' : Nat → Nat, (∀ j, j < P → ((ud m H1).2.2.1 129 16).2 j = nI (dg' j) ∧ dg' j < f j) ∧ ∀ j, j < k → dg' j = dg j
/-- what it is asked with -/
def EXA (m P : Nat) (f : Nat → Nat) (fre N us : Nat) (S : Nat → Nat → Bool) (z : Nat → Nat) (p : Nat → Bool) (nf : Nat) (tm : Nat → Int32) (lc oc on : Nat → Nat) (ol : Nat → Nat → Nat) (L : Nat → Int64) (nb : Nat) (bo : Nat → Nat → Nat) (b : Nat) (H : mu_H) (U : Ud) (k st n : Nat) (dg : Nat → Nat) : Prop := um m H ∧ ud m H = U ∧ EXS U m P f fre N us S z p nf tm lc oc on ol L nb bo b ∧ (∀ j, j < P → (U.2.2.1 129 16).2 j = nI (dg j) ∧ dg j < f j) ∧ (∀ j, j < k → dg j = dgzU f P st j) ∧ (∃ a, st = Bk f P k * a) ∧ st + Bk f P k ≤ pd f 0 P ∧ (∀ t, st ≤ t → t < st + Bk f P k → ∀ j, j < k → CKJ P f S nf tm lc oc on ol nb bo b j t) ∧ LSO U n st (QQ P f fre S nf tm lc oc on ol L nb bo b)
theorem bit_n {w : Int64} (ht : t < 2147483648) : (((w.toUInt64 >>> ((nI t).toInt64.toUInt64 &&& Int64.toUInt64 63)).toInt64) &&& (1 : Int64)).toInt32 = nI (if btz w (t % 64) = true then 1 else 0) := by
  rw [btz_ask ht]
  split <;> rfl
/-- digits between two options are none -/
theorem opt_gap {i x lm : Nat} (hr : ∀ i i', i < i' → i' < n → dg i < dg i') (h1 : ∀ q, q < i → dg q < lm) (h2 : lm ≤ x) (h3 : i < n → x < dg i) : ¬ lmz dg n x = true := fun hz => by
  obtain ⟨q, q1, q2⟩ := (lmz_iff n).mp hz
  by_cases e : q < i
  · have := h1 q e
    omega
  · by_cases e2 : q = i
    · have := h3 (by omega)
      rw [e2] at q2
      omega
    · have := hr i q (by omega) q1
      have := h3 (by omega)
      omega
end Extend
