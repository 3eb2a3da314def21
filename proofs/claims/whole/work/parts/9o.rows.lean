/-! TABLES AS DATA, once more: all Rows of a Model and of those that work on it -/
def gT (R W : Nat → Nat) (N : Nat) (H : mu_H) : Ts := fun j => if j < N then tb H (R j) (W j) else (0, fun _ _ => 0)
/-- places of Rows, each of its own -/
def gR (R W : Nat → Nat) (N : Nat) : Prop := (∀ j, j < N → gi_w (R j) = some (W j)) ∧ ∀ i j, i < N → j < N → i ≠ j → R i ≠ R j
def tget (t : Tb) (x : Int32) (c : Nat) : Int32 := if x < 0 then 0 else t.2 x.toNatClampNeg c
section TableData
variable {H H1 : mu_H} {R W : Nat → Nat} {N j : Nat} {S : Nat → Bool}
theorem gT_at (hj : j < N) : gT R W N H j = tb H (R j) (W j) := if_pos hj
theorem gT_n (hj : j < N) : (gT R W N H j).1 = gi_sz H (R j) := by rw [gT_at hj]; rfl
theorem gT_c {i c : Nat} (hj : j < N) (hi : i < gi_sz H (R j)) (hc : c < W j) : (gT R W N H j).2 i c = cel H (R j) (i * W j + c) := by rw [gT_at hj]; exact if_pos ⟨hi, hc⟩
theorem gT_get (hj : j < N) {x : Int32} {c : Nat} : rw_get H (R j) (W j) (gi_sz H (R j)) x c = tget (gT R W N H j) x c := by
  rw [gT_at hj]
  unfold rw_get tget
  rfl
theorem gT_ext {s : Ts} (h : ∀ j, j < N → gT R W N H j = s j) (h2 : ∀ j, ¬ j < N → s j = (0, fun _ _ => 0)) : gT R W N H = s := by
  funext j
  by_cases hj : j < N
  · exact h j hj
  · rw [h2 j hj]
    exact if_neg hj
theorem gT_out (hj : ¬ j < N) : gT R W N H j = (0, fun _ _ => 0) := if_neg hj
theorem gT_keep (h : gR R W N) (hk : gk S H H1) (hS : ∀ j, j < N → S (R j) = false) : gT R W N H1 = gT R W N H :=
  gT_ext (fun j hj => by rw [gT_at hj, gT_at hj]; exact hk.tb (h.1 j hj) (hS j hj)) (fun j hj => gT_out hj)
theorem gT_one (h : gR R W N) (hj : j < N) (hk : gk (fun p => Nat.beq p (R j)) H H1) : gT R W N H1 = fu (gT R W N H) j (tb H1 (R j) (W j)) := by
  refine gT_ext (fun i hi => ?_) (fun i hi => ?_)
  · by_cases e : i = j
    · subst e
      rw [fu_at, gT_at hi]
    · rw [fu_ne _ _ e, gT_at hi, gT_at hi]
      refine hk.tb (h.1 i hi) ?_
      cases hx : Nat.beq (R i) (R j) with
      | false => rfl
      | true => exact absurd (Nat.eq_of_beq_eq_true hx) (h.2 i j hi hj e)
  · rw [fu_ne _ _ (by omega)]
    exact gT_out hi
theorem gT_put (h : gR R W N) (hj : j < N) {a b c e : Int32} (hq : gq H H1 (R j) (W j) (rw_col a b c e)) : gT R W N H1 = fu (gT R W N H) j (tput (W j) (gT R W N H j) a b c e) := by
  rw [gT_one h hj hq.1, gT_at hj, hq.tb]
  rfl
theorem tb_set (hg : gi H) {r w : Nat} (hw : gi_w r = some w) {row v : Int32} {c : Nat} : tb (rw_set H r w (gi_sz H r) row c v) r w = tset w (tb H r w) row c v := by
  have hne : r ≠ mu_p (mu_r H r 1) := (hg.cell hw).1 _ 10 (gi_w_ok hw).2.2.2.1
  unfold rw_set tset
  by_cases h1 : row < 0
  · rw [if_pos h1, if_pos h1]
  · rw [if_neg h1, if_neg h1]
    by_cases h2 : row.toNatClampNeg < gi_sz H r ∧ c < w
    · rw [if_pos h2, if_pos (show row.toNatClampNeg < (tb H r w).1 ∧ c < w from h2)]
      have hz : gi_sz (mu_si H (mu_p (mu_r H r 1)) (row.toNatClampNeg * w + c) v) r = gi_sz H r := by
        unfold gi_sz
        rw [mu_i_si, if_neg (fun z => hne z.1)]
      unfold tb
      rw [hz]
      refine Prod.ext rfl (funext fun a => funext fun b => ?_)
      show (if a < gi_sz H r ∧ b < w then mu_i (mu_si H (mu_p (mu_r H r 1)) (row.toNatClampNeg * w + c) v) (mu_p (mu_r H r 1)) (a * w + b) else 0) = (if a = row.toNatClampNeg ∧ b = c then v else (if a < gi_sz H r ∧ b < w then cel H r (a * w + b) else 0))
      by_cases h3 : a = row.toNatClampNeg ∧ b = c
      · rw [if_pos h3, if_pos (by rw [h3.1, h3.2]; exact h2), mu_i_si, if_pos ⟨rfl, by rw [h3.1, h3.2]⟩]
      · rw [if_neg h3]
        by_cases h4 : a < gi_sz H r ∧ b < w
        · rw [if_pos h4, if_pos h4, mu_i_si, if_neg (fun z => h3 ?_)]
          · rfl
          · have e := z.2
            have hW := (gi_w_ok hw).2.1
            have e1 : (a * w + b) / w = a := by rw [Nat.mul_comm, Nat.mul_add_div hW, Nat.div_eq_of_lt h4.2]; rfl
            have e2 : (row.toNatClampNeg * w + c) / w = row.toNatClampNeg := by rw [Nat.mul_comm, Nat.mul_add_div hW, Nat.div_eq_of_lt h2.2]; rfl
            have e3 : a = row.toNatClampNeg := by rw [← e1, e, e2]
            refine ⟨e3, ?_⟩
            rw [e3] at e
            omega
        · rw [if_neg h4, if_neg h4]
    · rw [if_neg h2, if_neg (show ¬ (row.toNatClampNeg < (tb H r w).1 ∧ c < w) from h2)]
theorem gT_set (hg : gi H) (h : gR R W N) (hj : j < N) {row v : Int32} {c : Nat} : gT R W N (rw_set H (R j) (W j) (gi_sz H (R j)) row c v) = fu (gT R W N H) j (tset (W j) (gT R W N H j) row c v) := by
  rw [gT_one h hj (gk.set hg (h.1 j hj) (Nat.beq_refl _)), gT_at hj, tb_set hg (h.1 j hj)]
theorem tb_size (hg : gi H) {r w k : Nat} (hw : gi_w r = some w) (hk : k ≤ gi_sz H r) : tb (mu_si H r 2 (nI k)) r w = tcut (tb H r w) k := by
  obtain ⟨z1, z2, z3⟩ := hg.size hw hk
  unfold tb tcut
  rw [z2]
  refine Prod.ext rfl (funext fun a => funext fun b => ?_)
  show (if a < k ∧ b < w then cel (mu_si H r 2 (nI k)) r (a * w + b) else 0) = (if a < k then (if a < gi_sz H r ∧ b < w then cel H r (a * w + b) else 0) else 0)
  have hc : cel (mu_si H r 2 (nI k)) r (a * w + b) = cel H r (a * w + b) := by
    show mu_i (mu_si H r 2 (nI k)) (mu_p (mu_r H r 1)) (a * w + b) = mu_i H (mu_p (mu_r H r 1)) (a * w + b)
    rw [mu_i_si, if_neg (fun z => ((hg.cell hw).1 _ 10 (gi_w_ok hw).2.2.2.1).symm z.1)]
  rw [hc]
  by_cases h1 : a < k
  · rw [if_pos h1]
    by_cases h2 : b < w
    · rw [if_pos ⟨h1, h2⟩, if_pos ⟨by omega, h2⟩]
    · rw [if_neg (fun z => h2 z.2), if_neg (fun z => h2 z.2)]
  · rw [if_neg h1, if_neg (fun z => h1 z.1)]
theorem gT_size (hg : gi H) (h : gR R W N) (hj : j < N) {k : Nat} (hk : k ≤ gi_sz H (R j)) : gT R W N (mu_si H (R j) 2 (nI k)) = fu (gT R W N H) j (tcut (gT R W N H j) k) := by
  rw [gT_one h hj (gk.si hg (gi_w_ok (h.1 j hj)).2.2.2.1 (Nat.beq_refl _)), gT_at hj, tb_size hg (h.1 j hj) hk]
end TableData
/-- the tables of the Model at m; 19 Sound's members, 20 Judge's open ones, 21 the program, 22 the sides, 23 tasks, 24 and 25 the Relation's, 26 the Prover's, 27 the branches -/
def ra (m j : Nat) : Nat := if j < 19 then m + 1 + 2 * j else [93, 96, 101, 103, 118, 130, 132, 159, 167].getD (j - 19) 0
def wa (j : Nat) : Nat := [2, 11, 1, 6, 2, 2, 3, 4, 3, 4, 1, 4, 1, 6, 1, 4, 4, 3, 2, 5, 2, 4, 4, 5, 6, 5, 2, 5].getD j 0
def ak (m : Nat) (H : mu_H) : Ts := gT (ra m) wa 28 H
def ap (j : Nat) (s : Ts) (a b c e : Int32) : Ts := fu s j (tput (wa j) (s j) a b c e)
def ax (j : Nat) (s : Ts) (row : Int32) (c : Nat) (v : Int32) : Ts := fu s j (tset (wa j) (s j) row c v)
def ac (j : Nat) (s : Ts) (k : Nat) : Ts := fu s j (tcut (s j) k)
def rS (m p : Nat) : Bool := decide (p = 91 ∨ p = 92 ∨ p = 93 ∨ p = 96 ∨ (m < p ∧ p ≤ m + 37))
/-- what a step of Sound, of the Model's growing or of the Judge leaves; C: how long the arrays may become -/
def rl (m : Nat) (C : Nat → Nat) (H H1 : mu_H) : Prop := gk (rS m) H H1 ∧ (∀ j, mu_r H1 92 j = mu_r H 92 j) ∧ (∀ j, mu_r H1 91 j = mu_r H 91 j) ∧ (∀ j, j < 28 → gi_cap H1 (ra m j) ≤ max (gi_cap H (ra m j)) (C j)) ∧ ∀ j, mu_i H1 92 j = mu_i H 92 j
def dm (m : Nat) (H : mu_H) : Prop := gi H ∧ (m = 2 ∨ m = 41) ∧ mu_r H 92 2 = some m ∧ mu_r H 91 3 = some m
section JudgeData
variable {H H1 H2 : mu_H} {m j d : Nat} {C : Nat → Nat} {X : Ts}
theorem ra_ok (hm : m = 2 ∨ m = 41) : gR (ra m) wa 28 := by
  rcases hm with e | e <;> subst e
  · refine ⟨by decide +kernel, ?_⟩
    have : ∀ i, i < 28 → ∀ j, j < 28 → i ≠ j → ra 2 i ≠ ra 2 j := by decide +kernel
    exact fun i j hi hj => this i hi j hj
  · refine ⟨by decide +kernel, ?_⟩
    have : ∀ i, i < 28 → ∀ j, j < 28 → i ≠ j → ra 41 i ≠ ra 41 j := by decide +kernel
    exact fun i j hi hj => this i hi j hj
theorem rl.refl (m : Nat) (C : Nat → Nat) (H : mu_H) : rl m C H H := ⟨gk.refl _ H, fun _ => rfl, fun _ => rfl, fun _ _ => Nat.le_max_left _ _, fun _ => rfl⟩
theorem rl.trans (h : rl m C H H1) (h' : rl m C H1 H2) : rl m C H H2 := by
  obtain ⟨a, b, c, e, f⟩ := h
  obtain ⟨a', b', c', e', f'⟩ := h'
  refine ⟨a.trans a', fun j => (b' j).trans (b j), fun j => (c' j).trans (c j), fun j hj => ?_, fun j => (f' j).trans (f j)⟩
  have h1 := e j hj
  have h2 := e' j hj
  omega
theorem rl.wid {C' : Nat → Nat} (h : rl m C H H1) (hC : ∀ j, j < 28 → C j ≤ C' j) : rl m C' H H1 := by
  obtain ⟨a, b, c, e, f⟩ := h
  refine ⟨a, b, c, fun j hj => ?_, f⟩
  have h1 := e j hj
  have h2 := hC j hj
  omega
theorem ak_n (hj : j < 28) : (ak m H j).1 = gi_sz H (ra m j) := gT_n hj
theorem dm.w (h : dm m H) (hj : j < 28) : gi_w (ra m j) = some (wa j) := (ra_ok h.2.1).1 j hj
theorem dm.size (h : dm m H) (e : ak m H = X) (hj : j < 28) : mu_i H (ra m j) 2 = nI (X j).1 := by
  rw [← e, ak_n hj]
  exact (h.1.w (h.w hj)).2.2.2.1
theorem dm.lt (h : dm m H) (e : ak m H = X) (hj : j < 28) : (X j).1 ≤ 67108864 := by
  rw [← e, ak_n hj]
  exact rw_n (h.1.w (h.w hj))
/-- a number of a table -/
theorem dm.get (h : dm m H) (e : ak m H = X) (hj : j < 28) (x : Int32) {c : Nat} (hc : c < 2 ^ 31) : mu_TI (mu_D (d + 1)) 46 [.inr (.inr (some (ra m j))), .inl x, .inl (nI c)] H (fun y H1 => y = tget (X j) x c ∧ H1 = H) := by
  rw [← e, show tget (ak m H j) x c = rw_get H (ra m j) (wa j) (gi_sz H (ra m j)) x c from (gT_get hj).symm]
  exact gi_get_ok h.1 (h.w hj) x hc
theorem dm.of (h : dm m H) (hg : gi H1) (hr : rl m C H H1) : dm m H1 := ⟨hg, h.2.1, by rw [hr.2.1]; exact h.2.2.1, by rw [hr.2.2.1 3]; exact h.2.2.2⟩
theorem rS_ra (hj : j < 21) : rS m (ra m j) = true := by
  refine decide_eq_true ?_
  unfold ra
  by_cases h : j < 19
  · rw [if_pos h]; omega
  · rw [if_neg h]
    have : j = 19 ∨ j = 20 := by omega
    rcases this with e | e <;> subst e
    · exact Or.inr (Or.inr (Or.inl rfl))
    · exact Or.inr (Or.inr (Or.inr (Or.inl rfl)))
theorem dm.cap (h : dm m H) {S : Nat → Bool} {i : Nat} (hi : i < 28) (hk : gk S H H1) (hS : S (ra m i) = false) : gi_cap H1 (ra m i) = gi_cap H (ra m i) := by
  obtain ⟨-, -, -, hrk, hro⟩ := gi_w_ok (h.w hi)
  unfold gi_cap
  rw [(hk.obj hrk hS).r, (hk.2.1 _ (h.1.o hro).2.1).2]
theorem beq_f {a b : Nat} (h : a ≠ b) : Nat.beq a b = false := by
  cases hx : Nat.beq a b with
  | false => rfl
  | true => exact absurd (Nat.eq_of_beq_eq_true hx) h
theorem ra_91 (hm : m = 2 ∨ m = 41) (hj : j < 28) : ra m j ≠ 91 ∧ ra m j ≠ 92 ∧ ra m j ≠ 95 := by
  rcases hm with e | e <;> subst e
  · exact (show ∀ j, j < 28 → ra 2 j ≠ 91 ∧ ra 2 j ≠ 92 ∧ ra 2 j ≠ 95 by decide +kernel) j hj
  · exact (show ∀ j, j < 28 → ra 41 j ≠ 91 ∧ ra 41 j ≠ 92 ∧ ra 41 j ≠ 95 by decide +kernel) j hj
/-- a step at one table -/
theorem dm.one (h : dm m H) (hj : j < 21) (hg : gi H1) (hk : gk (fun p => Nat.beq p (ra m j)) H H1) (hc : gi_cap H1 (ra m j) ≤ max (gi_cap H (ra m j)) (C j)) : dm m H1 ∧ rl m C H H1 := by
  have h91 := ra_91 h.2.1 (show j < 28 by omega)
  have hr : rl m C H H1 := ⟨hk.mono (fun p hp => by rw [Nat.eq_of_beq_eq_true hp]; exact rS_ra hj), fun i => (hk.obj (p := 92) (k := 12) rfl (beq_f h91.2.1.symm)).r i, fun i => (hk.obj (p := 91) (k := 3) rfl (beq_f h91.1.symm)).r i, fun i hi => by
    by_cases e : i = j
    · subst e; exact hc
    · rw [h.cap hi hk (beq_f ((ra_ok h.2.1).2 i j hi (by omega) e))]
      exact Nat.le_max_left _ _, fun i => (hk.obj (p := 92) (k := 12) rfl (beq_f h91.2.1.symm)).i i⟩
  exact ⟨h.of hg hr, hr⟩
theorem dm.set (h : dm m H) (hj : j < 21) {row v : Int32} {c : Nat} : dm m (rw_set H (ra m j) (wa j) (gi_sz H (ra m j)) row c v) ∧ rl m C H (rw_set H (ra m j) (wa j) (gi_sz H (ra m j)) row c v) ∧ ak m (rw_set H (ra m j) (wa j) (gi_sz H (ra m j)) row c v) = ax j (ak m H) row c v ∧ ∀ i, mu_i (rw_set H (ra m j) (wa j) (gi_sz H (ra m j)) row c v) 95 i = mu_i H 95 i := by
  have hw := h.w (show j < 28 by omega)
  have hk : gk (fun p => Nat.beq p (ra m j)) H (rw_set H (ra m j) (wa j) (gi_sz H (ra m j)) row c v) := gk.set h.1 hw (Nat.beq_refl _)
  obtain ⟨a, b⟩ := h.one (C := C) hj (h.1.set hw).1 hk (by
    have : gi_cap (rw_set H (ra m j) (wa j) (gi_sz H (ra m j)) row c v) (ra m j) = gi_cap H (ra m j) := by
      unfold gi_cap mu_n
      rw [rw_set_r, (rw_set_eq H (ra m j) (wa j) (gi_sz H (ra m j)) row c v).2.1]
    rw [this]
    exact Nat.le_max_left _ _)
  refine ⟨a, b, gT_set h.1 (ra_ok h.2.1) (by omega), fun i => ?_⟩
  have hne : 95 ≠ mu_p (mu_r H (ra m j) 1) := by
    have z := (h.1.cell hw).2.1 92 1 rfl (ra_91 h.2.1 (show j < 28 by omega)).2.1.symm
    rw [h.1.r (p := 92) (j := 1) (q := 95) rfl] at z
    exact z
  exact (rw_set_same hne).i i
theorem dm.put (h : dm m H) (hj : j < 21) {a1 a2 a3 a4 : Int32} (hg : gi H1) (hq : gq H H1 (ra m j) (wa j) (rw_col a1 a2 a3 a4)) (hC : 2 * ((gi_sz H (ra m j) + 1) * wa j) + wa j ≤ C j) : dm m H1 ∧ rl m C H H1 ∧ ak m H1 = ap j (ak m H) a1 a2 a3 a4 := by
  obtain ⟨a, b⟩ := h.one (C := C) hj hg hq.1 (by
    have h4 := hq.2.2.2.1.1
    rw [hq.2.1] at h4
    omega)
  exact ⟨a, b, gT_put (ra_ok h.2.1) (by omega) hq⟩
theorem dm.cut (h : dm m H) (hj : j < 21) {k : Nat} (hk : k ≤ gi_sz H (ra m j)) : dm m (mu_si H (ra m j) 2 (nI k)) ∧ rl m C H (mu_si H (ra m j) 2 (nI k)) ∧ ak m (mu_si H (ra m j) 2 (nI k)) = ac j (ak m H) k := by
  have hw := h.w (show j < 28 by omega)
  obtain ⟨a, b⟩ := h.one (C := C) hj (h.1.size hw hk).1 (gk.si h.1 (gi_w_ok hw).2.2.2.1 (Nat.beq_refl _)) (Nat.le_max_left _ _)
  exact ⟨a, b, gT_size h.1 (ra_ok h.2.1) (by omega) hk⟩
/-- the heads of Sound's members are no table -/
theorem gk.h95 {S : Nat → Bool} (hk : gk S H H1) (h92 : S 92 = false) (hg : gi H) (i : Nat) : mu_i H1 95 i = mu_i H 95 i := by
  have z := (hk.2.2.2.1 92 1 rfl h92).i i
  rw [hg.r (p := 92) (j := 1) (q := 95) rfl] at z
  exact z
theorem dm.getr (h : dm m H) (e : ak m H = X) (hj : j < 28) {r : Nat} (hr : r = ra m j) (x : Int32) {c : Nat} (hc : c < 2 ^ 31) : mu_TI (mu_D (d + 1)) 46 [.inr (.inr (some r)), .inl x, .inl (nI c)] H (fun y H1 => y = tget (X j) x c ∧ H1 = H) := by
  rw [hr]
  exact h.get e hj x hc
theorem dm.setr (h : dm m H) (e : ak m H = X) (hj : j < 21) {r : Nat} (hr : r = ra m j) (row v : Int32) {c : Nat} (hc : c < 2 ^ 31) : mu_TV (mu_D (d + 1)) 116 [.inr (.inr (some r)), .inl row, .inl (nI c), .inl v] H (fun H1 => dm m H1 ∧ rl m C H H1 ∧ ak m H1 = ax j X row c v ∧ ∀ i, mu_i H1 95 i = mu_i H 95 i) := by
  rw [hr]
  refine (gi_set_ok h.1 (h.w (show j < 28 by omega)) row v hc).imp (fun H1 q => ?_)
  rw [q, ← e]
  exact h.set hj
theorem dm.putr (h : dm m H) (e : ak m H = X) (hj : j < 21) {r : Nat} (hr : r = ra m j) (a1 a2 a3 a4 : Int32) (hC : 2 * (((X j).1 + 1) * wa j) + wa j ≤ C j) (h4 : C j ≤ 8388608) : mu_TI (mu_D (d + 3)) 17 [.inr (.inr (some r)), .inl a1, .inl a2, .inl a3, .inl a4] H (fun x H1 => x = nI (X j).1 ∧ dm m H1 ∧ rl m C H H1 ∧ ak m H1 = ap j X a1 a2 a3 a4 ∧ ∀ i, mu_i H1 95 i = mu_i H 95 i) := by
  have hz : gi_sz H (ra m j) = (X j).1 := by rw [← e, ak_n (by omega)]
  rw [hr]
  refine (gi_put_ok h.1 (h.w (show j < 28 by omega)) (by rw [hz]; omega) a1 a2 a3 a4).imp (fun x H1 q => ?_)
  obtain ⟨q1, q2, q3⟩ := q
  obtain ⟨a, b, c⟩ := h.put (C := C) hj q2 q3 (by rw [hz]; exact hC)
  rw [e] at c
  refine ⟨by rw [q1, hz], a, b, c, fun i => q3.1.h95 (beq_f (ra_91 h.2.1 (show j < 28 by omega)).2.1.symm) h.1 i⟩
theorem dm.clearr (h : dm m H) (e : ak m H = X) (hj : j < 21) {r : Nat} (hr : r = ra m j) : mu_TV (mu_D (d + 1)) 37 [.inr (.inr (some r))] H (fun H1 => dm m H1 ∧ rl m C H H1 ∧ ak m H1 = ac j X 0 ∧ ∀ i, mu_i H1 95 i = mu_i H 95 i) := by
  rw [hr]
  have hw := h.w (show j < 28 by omega)
  refine (rw_clear_ok (h.1.w hw)).imp (fun H1 q => ?_)
  obtain ⟨a, b, c⟩ := h.cut (C := C) hj (k := 0) (Nat.zero_le _)
  rw [q]
  rw [e] at c
  exact ⟨a, b, c, fun i => (gk.si (S := fun p => Nat.beq p (ra m j)) h.1 (gi_w_ok hw).2.2.2.1 (Nat.beq_refl _)).h95 (beq_f (ra_91 h.2.1 (show j < 28 by omega)).2.1.symm) h.1 i⟩
/-- where a MODULE's rows end -/
def stp (X : Ts) (v : Int32) (c j : Nat) : Int32 := if v + 1 < nI (X 1).1 then tget (X 1) (v + 1) c else nI (X j).1
theorem dm.stopr (h : dm m H) (e : ak m H = X) (hj : j < 28) {r : Nat} (hr : r = ra m j) {c : Nat} (hc : c < 2 ^ 31) (v : Int32) : mu_TI (mu_D (d + 2)) 130 [.inr (.inr (some m)), .inl v, .inl (nI c), .inr (.inr (some r))] H (fun x H1 => x = stp X v c j ∧ H1 = H) := by
  rw [hr]
  have e1 : mu_i H (m + 3) 2 = nI (X 1).1 := h.size e (j := 1) (by decide)
  have e2 : mu_i H (ra m j) 2 = nI (X j).1 := h.size e hj
  have e3 : rw_get H (m + 3) 11 (gi_sz H (m + 3)) (v + 1) c = tget (X 1) (v + 1) c := by
    rw [← e]
    exact gT_get (R := ra m) (W := wa) (N := 28) (j := 1) (by decide)
  refine (md_stop h.1 h.2.1 (h.w hj) hc v).imp (fun x H1 q => ?_)
  obtain ⟨q1, q2⟩ := q
  refine ⟨?_, q1.symm⟩
  rw [e1, e2, e3] at q2
  unfold stp
  rcases q2 with ⟨z1, z2⟩ | ⟨z1, z2⟩
  · rw [if_pos z2]; exact z1
  · rw [if_neg z2]; exact z1
end JudgeData
