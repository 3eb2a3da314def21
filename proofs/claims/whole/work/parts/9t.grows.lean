/-! THE MODEL GROWS, as data -/
def np (Y : Ts) (k : Nat) : Nat := sp Y (k + 1) 1 - sp Y k 1
def nv (Y : Ts) (k : Nat) : Nat := sp Y (k + 1) 2 - sp Y k 2
def ndU (Y : Ts) (k : Nat) : Nat := sp Y (k + 1) 3 - sp Y k 3
def nc (Y : Ts) (k : Nat) : Nat := sp Y (k + 1) 5 - sp Y k 5
/-- what growing leaves as it is -/
def fz (Y s : Ts) : Prop := (∀ j, j ≠ 1 → (j < 11 ∨ j = 14 ∨ 19 ≤ j) → s j = Y j) ∧ (s 1).1 = (Y 1).1 ∧ ∀ i c, c ≠ 7 → (s 1).2 i c = (Y 1).2 i c
/-- an INSTANCE's MODULE, its first slot, its first entry; an open one's INSTANCE, its next VAR -/
def im (s : Ts) (i : Nat) : Nat := ((s 11).2 i 0).toNatClampNeg
def ia (s : Ts) (i : Nat) : Nat := ((s 11).2 i 1).toNatClampNeg
def ie (s : Ts) (i : Nat) : Nat := ((s 11).2 i 2).toNatClampNeg
def oi (s : Ts) (r : Nat) : Nat := ((s 18).2 r 0).toNatClampNeg
def ou (s : Ts) (r : Nat) : Nat := ((s 18).2 r 1).toNatClampNeg
def Gi (Y s : Ts) : Prop := ∀ i, i < (s 11).1 → ((s 11).2 i 0 = nI (im s i) ∧ (s 11).2 i 1 = nI (ia s i) ∧ (s 11).2 i 2 = nI (ie s i) ∧ (s 11).2 i 3 = nI (np Y (im s i))) ∧ im s i < (Y 1).1 ∧ ia s i + nv Y (im s i) ≤ (s 12).1 ∧ ie s i + np Y (im s i) + ndU Y (im s i) ≤ (s 13).1 ∧ ∀ i', i < i' → i' < (s 11).1 → ia s i + nv Y (im s i) ≤ ia s i'
/-- what a VAR's slot holds -/
def vin (Y s : Ts) (v : Nat) (x : Int32) : Prop := ((Y 3).2 v 1 = 3 → ∃ i, i < (s 11).1 ∧ x = nI i ∧ im s i = ((Y 3).2 v 4).toNatClampNeg) ∧ (¬ (Y 3).2 v 1 = 3 → ∃ w, w < (s 15).1 ∧ x = nI w ∧ (s 15).2 w 0 = nI v)
def Gs (Y s : Ts) : Prop := ∀ i, i < (s 11).1 → ∀ v, sp Y (im s i) 2 ≤ v → v < sp Y (im s i + 1) 2 → vin Y s v ((s 12).2 (ia s i + (v - sp Y (im s i) 2)) 0) ∨ ∃ r, r < (s 18).1 ∧ oi s r = i ∧ ou s r ≤ v
def Ge (Y s : Ts) : Prop := ∀ e, e < (s 13).1 → (∃ a b i, (s 13).2 e 0 = nI a ∧ (s 13).2 e 1 = nI b ∧ (s 13).2 e 2 = nI i ∧ i < (s 11).1 ∧ rg Y (im s i) false a b) ∧ (s 13).2 e 5 = 0
def Gc (Y s : Ts) (j : Nat) : Prop := ∀ r, r < (s j).1 → ∃ a b i, (s j).2 r 0 = nI a ∧ (s j).2 r 1 = nI b ∧ (s j).2 r 2 = nI i ∧ i < (s 11).1 ∧ rg Y (im s i) false a b
def Go (Y s : Ts) : Prop := ∀ r, r < (s 18).1 → ((s 18).2 r 0 = nI (oi s r) ∧ (s 18).2 r 1 = nI (ou s r)) ∧ oi s r < (s 11).1 ∧ sp Y (im s (oi s r)) 2 ≤ ou s r ∧ ou s r ≤ sp Y (im s (oi s r) + 1) 2
/-- what an open one still makes -/
def rq (Y s : Ts) (r : Nat) : Nat := nc Y (im s (oi s r)) + sm (wv Y) (ou s r) (sp Y (im s (oi s r) + 1) 2 - ou s r)
def rd (Y s : Ts) (r : Nat) : Nat := sp Y (im s (oi s r) + 1) 2 - ou s r
def rj (Y s : Ts) (r : Nat) : Nat := sm (wj Y) (ou s r) (sp Y (im s (oi s r) + 1) 2 - ou s r)
def GB (Y s : Ts) (T : Nat) : Prop := (s 11).1 + (s 13).1 + (s 15).1 + (s 16).1 + (s 17).1 + sm (rq Y s) 0 (s 18).1 ≤ T ∧ (s 12).1 ≤ (s 11).1 + (s 15).1 + sm (rd Y s) 0 (s 18).1 ∧ (s 18).1 ≤ (s 11).1 ∧ (s 11).1 + sm (rj Y s) 0 (s 18).1 ≤ 200
/-- a MODULE that has INSTANCES is marked -/
def Gu (s : Ts) : Prop := (∀ i, i < (s 11).1 → ¬ (s 1).2 (im s i) 7 = 0) ∧ ∀ w, w < (s 15).1 → (s 15).2 w 2 = -1
def GI (Y s : Ts) (T : Nat) : Prop := fz Y s ∧ Gi Y s ∧ Gs Y s ∧ Ge Y s ∧ (Gc Y s 16 ∧ Gc Y s 17 ∧ Gu s) ∧ Go Y s ∧ GB Y s T
/-- a MODEL that is well formed -/
def FY (Y : Ts) : Prop := CU Y ∧ VMs Y ∧ RKs Y ∧ (∀ k, k < (Y 1).1 → ¬ (Y 1).2 k 8 = 0) ∧ ∀ j, j < 11 → (Y j).1 ≤ 67108864
section Growing
variable {Y s s' : Ts} {T r0 i u k c a0 : Nat}
theorem sm_last {f g : Nat → Nat} {n : Nat} (h : ∀ r, r < n → g r = f r) : sm g 0 (n + 1) = sm f 0 n + g n := by
  show sm g 0 n + g (0 + n) = _
  rw [sm_congr (f := f) (fun v _ h2 => h v (by omega)), Nat.zero_add]
theorem sm_ge {f g : Nat → Nat} {a : Nat} (h : ∀ v, g v ≤ f v) : ∀ n, sm g a n ≤ sm f a n
  | 0 => Nat.le_refl _
  | n + 1 => Nat.add_le_add (sm_ge h n) (h _)
theorem FY.le (h : FY Y) (hk : k < (Y 1).1) {c j : Nat} (h1 : 1 ≤ c) (h6 : c ≤ 6) (hj : tabc c = j) : sp Y k c ≤ sp Y (k + 1) c ∧ sp Y (k + 1) c ≤ (Y j).1 ∧ (Y j).1 ≤ 67108864 := by
  have ht := tabc_lt h6
  rw [← hj]
  exact ⟨(h.1.1 k hk c h1 h6).2.1, (h.1.1 k hk c h1 h6).2.2, h.2.2.2.2 _ ht⟩
theorem fz.spc (h : fz Y s) {c : Nat} (hc : c ≤ 6) : sp s k c = sp Y k c := by
  have ht := tabc_lt hc
  have h1 : tabc c ≠ 1 := (show ∀ c, c ≤ 6 → tabc c ≠ 1 by decide) c hc
  unfold sp
  rw [h.2.1, h.1 _ h1 (Or.inl ht), h.2.2 k c (by omega)]
theorem fz.start (h : fz Y s) (hF : FY Y) {k c : Nat} (hk : k < (Y 1).1) (h1 : 1 ≤ c) (h6 : c ≤ 6) : tget (s 1) (nI k) c = nI (sp Y k c) := by
  have hb := hF.2.2.2.2 1 (by decide)
  rw [tget_nI (by omega), h.2.2 k c (by omega)]
  exact (hF.1.1 k hk c h1 h6).1
theorem fz.stop (h : fz Y s) (hF : FY Y) {k c j : Nat} (hk : k < (Y 1).1) (h1 : 1 ≤ c) (h6 : c ≤ 6) (hj : tabc c = j) : stp s (nI k) c j = nI (sp Y (k + 1) c) := by
  have hb := hF.2.2.2.2 1 (by decide)
  have ht := tabc_lt h6
  have hn1 : tabc c ≠ 1 := (show ∀ c, c ≤ 6 → tabc c ≠ 1 by decide) c h6
  unfold stp
  rw [nI_1, h.2.1]
  by_cases h2 : k + 1 < (Y 1).1
  · rw [if_pos (nI_lt h2 (by omega))]
    exact h.start hF h2 h1 h6
  · rw [if_neg (fun z => h2 ((nI_ltI (by omega) (by omega)).mp z)), ← hj, h.1 _ hn1 (Or.inl ht)]
    unfold sp
    rw [if_neg h2]
/-- a plain VAR has been met -/
theorem GI.var (h : GI Y s T) (hF : FY Y) (hr0 : r0 + 1 = (s 18).1) (hi : i = oi s r0) (hu : u = ou s r0) (hk : k = im s i) (hlt : u < sp Y (k + 1) 2) (ht : ¬ (Y 3).2 u 1 = 3)
    (e : ∀ j, j ≠ 12 → j ≠ 15 → j ≠ 18 → s' j = s j)
    (n12 : (s' 12).1 = (s 12).1) (c12 : ∀ r, r ≠ ia s i + (u - sp Y k 2) → (s' 12).2 r 0 = (s 12).2 r 0) (x12 : (s' 12).2 (ia s i + (u - sp Y k 2)) 0 = nI (s 15).1)
    (n15 : (s' 15).1 = (s 15).1 + 1) (c15 : ∀ r, r < (s 15).1 → (s' 15).2 r 0 = (s 15).2 r 0) (x15 : (s' 15).2 (s 15).1 0 = nI u) (d15 : ∀ r, r < (s 15).1 → (s' 15).2 r 2 = (s 15).2 r 2) (y15 : (s' 15).2 (s 15).1 2 = -1)
    (n18 : (s' 18).1 = (s 18).1) (c18 : ∀ r q, (r ≠ r0 ∨ q ≠ 1) → (s' 18).2 r q = (s 18).2 r q) (x18 : (s' 18).2 r0 1 = nI (u + 1)) : GI Y s' T ∧ sm (rq Y s') 0 (s' 18).1 + 1 ≤ sm (rq Y s) 0 (s 18).1 := by
  obtain ⟨g1, g2, g3, g4, ⟨g5, g5', gu⟩, g6, g7, g8, g9, g10⟩ := h
  have e11 := e 11 (by decide) (by decide) (by decide)
  have e13 := e 13 (by decide) (by decide) (by decide)
  have e16 := e 16 (by decide) (by decide) (by decide)
  have e17 := e 17 (by decide) (by decide) (by decide)
  have hm : ∀ q, im s' q = im s q := fun q => by unfold im; rw [e11]
  have ha : ∀ q, ia s' q = ia s q := fun q => by unfold ia; rw [e11]
  have he : ∀ q, ie s' q = ie s q := fun q => by unfold ie; rw [e11]
  have ho : ∀ r, oi s' r = oi s r := fun r => by unfold oi; rw [c18 r 0 (Or.inr (by decide))]
  have hw : ∀ r, r ≠ r0 → ou s' r = ou s r := fun r hr => by unfold ou; rw [c18 r 1 (Or.inl hr)]
  obtain ⟨⟨o1, o2⟩, o3, o4, o5⟩ := g6 r0 (by omega)
  rw [← hi] at o1 o3 o4 o5
  rw [← hk] at o4 o5
  rw [← hu] at o2 o4 o5
  obtain ⟨gi1, gi2, gi3, gi4, gi5⟩ := g2 i o3
  rw [← hk] at gi2 gi3 gi4 gi5
  obtain ⟨l1, l2, l3⟩ := hF.le gi2 (c := 2) (j := 3) (by decide) (by decide) rfl
  have hw0 : ou s' r0 = u + 1 := by unfold ou; rw [x18]; exact nI_clamp (by omega)
  have up : ∀ v x, vin Y s v x → vin Y s' v x := fun v x hx => ⟨fun z => by obtain ⟨q, a, b, d⟩ := hx.1 z; exact ⟨q, by rw [e11]; exact a, b, by rw [hm]; exact d⟩, fun z => by obtain ⟨w, a, b, d⟩ := hx.2 z; exact ⟨w, by omega, b, by rw [c15 w a]; exact d⟩⟩
  have hQ : sm (rq Y s') 0 (s' 18).1 + 1 ≤ sm (rq Y s) 0 (s 18).1 := by
    have q1 : sm (rq Y s') 0 (r0 + 1) = sm (rq Y s) 0 r0 + rq Y s' r0 := sm_last (fun r hr => by unfold rq; rw [ho, hm, hw r (by omega)])
    have q2 : sm (rq Y s) 0 (r0 + 1) = sm (rq Y s) 0 r0 + rq Y s r0 := sm_last (fun r hr => rfl)
    have q3 : rq Y s r0 = rq Y s' r0 + 1 := by
      unfold rq
      rw [ho, hm, hw0, ← hi, ← hk, ← hu, show sp Y (k + 1) 2 - u = (sp Y (k + 1) 2 - (u + 1)) + 1 by omega, sm_head, wv_plain ht]
      omega
    rw [n18, ← hr0, q1, q2]
    omega
  refine ⟨⟨⟨fun j h1 h2 => (e j (by omega) (by omega) (by omega)).trans (g1.1 j h1 h2), by rw [e 1 (by decide) (by decide) (by decide)]; exact g1.2.1, by rw [e 1 (by decide) (by decide) (by decide)]; exact g1.2.2⟩, fun q hq => ?_, fun q hq v hv1 hv2 => ?_, fun x hx => ?_, ⟨fun r hr => ?_, fun r hr => ?_, fun q hq => by rw [e11] at hq; rw [hm, e 1 (by decide) (by decide) (by decide)]; exact gu.1 q hq, fun w hw => by
    by_cases hx : w < (s 15).1
    · rw [d15 w hx]; exact gu.2 w hx
    · have : w = (s 15).1 := by omega
      rw [this]; exact y15⟩, fun r hr => ?_, ?_, ?_, ?_, ?_⟩, hQ⟩
  · rw [e11] at hq
    rw [hm q, ha q, he q, e11, n12, e13]
    obtain ⟨a, b, d, f, g⟩ := g2 q hq
    exact ⟨a, b, d, f, fun i' h1 h2 => by rw [ha]; exact g i' h1 h2⟩
  · rw [e11] at hq
    rw [hm q] at hv1 hv2 ⊢
    rw [ha q]
    obtain ⟨-, -, q3, -, q5⟩ := g2 q hq
    by_cases hc : ia s q + (v - sp Y (im s q) 2) = ia s i + (u - sp Y k 2)
    · have hqi : q = i := by
        unfold nv at q3 q5 gi3 gi5
        rcases Nat.lt_trichotomy q i with z | z | z
        · have := q5 i z o3; omega
        · exact z
        · have := gi5 q z hq; omega
      subst hqi
      have hvu : v = u := by rw [← hk] at hc hv1; omega
      subst hvu
      left
      rw [hc, x12]
      exact ⟨fun z => absurd z ht, fun _ => ⟨(s 15).1, by omega, rfl, x15⟩⟩
    · rcases g3 q hq v hv1 hv2 with z | ⟨r, z1, z2, z3⟩
      · left
        rw [c12 _ hc]
        exact up _ _ z
      · right
        by_cases hr : r = r0
        · refine ⟨r, by omega, by rw [ho]; exact z2, ?_⟩
          rw [hr] at z2 z3 ⊢
          rw [hw0]
          rw [← hi] at z2
          subst z2
          rw [← hk] at hc
          rw [← hu] at z3
          by_cases hvu : v = u
          · subst hvu; exact absurd rfl hc
          · omega
        · exact ⟨r, by omega, by rw [ho]; exact z2, by rw [hw r hr]; exact z3⟩
  · rw [e13] at hx ⊢
    obtain ⟨⟨a, b, q, h1, h2, h3, h4, h5⟩, h6⟩ := g4 x hx
    exact ⟨⟨a, b, q, h1, h2, h3, by rw [e11]; exact h4, by rw [hm]; exact h5⟩, h6⟩
  · rw [e16] at hr ⊢
    obtain ⟨a, b, q, h1, h2, h3, h4, h5⟩ := g5 r hr
    exact ⟨a, b, q, h1, h2, h3, by rw [e11]; exact h4, by rw [hm]; exact h5⟩
  · rw [e17] at hr ⊢
    obtain ⟨a, b, q, h1, h2, h3, h4, h5⟩ := g5' r hr
    exact ⟨a, b, q, h1, h2, h3, by rw [e11]; exact h4, by rw [hm]; exact h5⟩
  · rw [n18] at hr
    by_cases hrr : r = r0
    · subst hrr
      rw [ho, hm, hw0, e11, c18 r 0 (Or.inr (by decide)), x18, ← hi, ← hk]
      exact ⟨⟨o1, rfl⟩, o3, by omega, by omega⟩
    · rw [ho, hm, hw r hrr, e11, c18 r 0 (Or.inr (by decide)), c18 r 1 (Or.inl hrr)]
      exact g6 r hr
  · rw [e11, e13, e16, e17, n15]
    omega
  · have q1 : sm (rd Y s') 0 (r0 + 1) = sm (rd Y s) 0 r0 + rd Y s' r0 := sm_last (fun r hr => by unfold rd; rw [ho, hm, hw r (by omega)])
    have q2 : sm (rd Y s) 0 (r0 + 1) = sm (rd Y s) 0 r0 + rd Y s r0 := sm_last (fun r hr => rfl)
    have q3 : rd Y s r0 = rd Y s' r0 + 1 := by
      unfold rd
      rw [ho, hm, hw0, ← hi, ← hk, ← hu]
      omega
    rw [n18, e11, n12, n15, ← hr0, q1]
    rw [← hr0, q2] at g8
    omega
  · rw [n18, e11]; exact g9
  · have q1 : sm (rj Y s') 0 (r0 + 1) = sm (rj Y s) 0 r0 + rj Y s' r0 := sm_last (fun r hr => by unfold rj; rw [ho, hm, hw r (by omega)])
    have q2 : sm (rj Y s) 0 (r0 + 1) = sm (rj Y s) 0 r0 + rj Y s r0 := sm_last (fun r hr => rfl)
    have q3 : rj Y s r0 = rj Y s' r0 := by
      unfold rj
      rw [ho, hm, hw0, ← hi, ← hk, ← hu, show sp Y (k + 1) 2 - u = (sp Y (k + 1) 2 - (u + 1)) + 1 by omega, sm_head, wj_plain ht, Nat.zero_add]
    rw [n18, e11, ← hr0, q1]
    rw [← hr0, q2] at g10
    omega
/-- all VARS of an INSTANCE have been met: its claims -/
theorem GI.pop (h : GI Y s T) (hr0 : r0 + 1 = (s 18).1) (hk : k = im s (oi s r0)) (hge : ¬ ou s r0 < sp Y (k + 1) 2)
    (e : ∀ j, j ≠ 16 → j ≠ 17 → j ≠ 18 → s' j = s j) (n16 : (s' 16).1 + (s' 17).1 ≤ (s 16).1 + (s 17).1 + nc Y k) (hc6 : Gc Y s' 16) (hc7 : Gc Y s' 17)
    (n18 : (s' 18).1 = r0) (c18 : ∀ r q, r < r0 → (s' 18).2 r q = (s 18).2 r q) : GI Y s' T ∧ sm (rq Y s') 0 (s' 18).1 ≤ sm (rq Y s) 0 (s 18).1 := by
  obtain ⟨g1, g2, g3, g4, ⟨-, -, gu⟩, g6, g7, g8, g9, g10⟩ := h
  have e11 := e 11 (by decide) (by decide) (by decide)
  have e12 := e 12 (by decide) (by decide) (by decide)
  have e13 := e 13 (by decide) (by decide) (by decide)
  have e15 := e 15 (by decide) (by decide) (by decide)
  have hm : ∀ q, im s' q = im s q := fun q => by unfold im; rw [e11]
  have ha : ∀ q, ia s' q = ia s q := fun q => by unfold ia; rw [e11]
  have he : ∀ q, ie s' q = ie s q := fun q => by unfold ie; rw [e11]
  have ho : ∀ r, r < r0 → oi s' r = oi s r := fun r hr => by unfold oi; rw [c18 r 0 hr]
  have hw : ∀ r, r < r0 → ou s' r = ou s r := fun r hr => by unfold ou; rw [c18 r 1 hr]
  have hQ : sm (rq Y s') 0 (s' 18).1 + nc Y k ≤ sm (rq Y s) 0 (s 18).1 := by
    have q1 : sm (rq Y s') 0 r0 = sm (rq Y s) 0 r0 := sm_congr (fun r _ hr => by unfold rq; rw [ho r (by omega), hm, hw r (by omega)])
    have q2 : sm (rq Y s) 0 (r0 + 1) = sm (rq Y s) 0 r0 + rq Y s r0 := sm_last (fun r hr => rfl)
    have q3 : nc Y k ≤ rq Y s r0 := by unfold rq; rw [← hk]; exact Nat.le_add_right _ _
    rw [n18, q1, ← hr0, q2]
    omega
  refine ⟨⟨⟨fun j h1 h2 => (e j (by omega) (by omega) (by omega)).trans (g1.1 j h1 h2), by rw [e 1 (by decide) (by decide) (by decide)]; exact g1.2.1, by rw [e 1 (by decide) (by decide) (by decide)]; exact g1.2.2⟩, fun q hq => ?_, fun q hq v hv1 hv2 => ?_, fun x hx => ?_, ⟨hc6, hc7, fun q hq => by rw [e11] at hq; rw [hm, e 1 (by decide) (by decide) (by decide)]; exact gu.1 q hq, by rw [e15]; exact gu.2⟩, fun r hr => ?_, ?_, ?_, ?_, ?_⟩, by omega⟩
  · rw [e11] at hq
    rw [hm q, ha q, he q, e11, e12, e13]
    obtain ⟨a, b, d, f, g⟩ := g2 q hq
    exact ⟨a, b, d, f, fun i' h1 h2 => by rw [ha]; exact g i' h1 h2⟩
  · rw [e11] at hq
    rw [hm q] at hv1 hv2 ⊢
    rw [ha q, e12]
    rcases g3 q hq v hv1 hv2 with z | ⟨r, z1, z2, z3⟩
    · left
      exact ⟨fun y => by obtain ⟨w, a, b, d⟩ := z.1 y; exact ⟨w, by rw [e11]; exact a, b, by rw [hm]; exact d⟩, by rw [e15]; exact z.2⟩
    · right
      by_cases hr : r = r0
      · subst hr
        rw [z2] at hk
        rw [← hk] at hv2
        omega
      · exact ⟨r, by omega, by rw [ho r (by omega)]; exact z2, by rw [hw r (by omega)]; exact z3⟩
  · rw [e13] at hx ⊢
    obtain ⟨⟨a, b, q, h1, h2, h3, h4, h5⟩, h6⟩ := g4 x hx
    exact ⟨⟨a, b, q, h1, h2, h3, by rw [e11]; exact h4, by rw [hm]; exact h5⟩, h6⟩
  · rw [n18] at hr
    rw [ho r hr, hm, hw r hr, e11, c18 r 0 hr, c18 r 1 hr]
    exact g6 r (by omega)
  · rw [e11, e13, e15]
    omega
  · have q1 : sm (rd Y s') 0 r0 = sm (rd Y s) 0 r0 := sm_congr (fun r _ hr => by unfold rd; rw [ho r (by omega), hm, hw r (by omega)])
    have q2 : sm (rd Y s) 0 (r0 + 1) = sm (rd Y s) 0 r0 + rd Y s r0 := sm_last (fun r hr => rfl)
    have q3 : rd Y s r0 = 0 := by unfold rd; rw [← hk]; omega
    rw [n18, e11, e12, e15, q1]
    rw [← hr0, q2] at g8
    omega
  · rw [n18, e11]; omega
  · have q1 : sm (rj Y s') 0 r0 = sm (rj Y s) 0 r0 := sm_congr (fun r _ hr => by unfold rj; rw [ho r (by omega), hm, hw r (by omega)])
    have q2 : sm (rj Y s) 0 (r0 + 1) = sm (rj Y s) 0 r0 + rj Y s r0 := sm_last (fun r hr => rfl)
    rw [n18, e11, q1]
    rw [← hr0, q2] at g10
    omega
theorem wv_pos {v : Nat} : 1 ≤ wv s v := Nat.le_add_right _ _
theorem sm_one {f : Nat → Nat} {a : Nat} (h : ∀ v, 1 ≤ f v) : ∀ n, n ≤ sm f a n
  | 0 => Nat.le_refl _
  | n + 1 => Nat.add_le_add (sm_one h n) (h _)
theorem GI.sz (h : GI Y s T) : (s 11).1 ≤ 200 ∧ (s 12).1 ≤ T ∧ (s 13).1 ≤ T ∧ (s 15).1 ≤ T ∧ (s 16).1 ≤ T ∧ (s 17).1 ≤ T ∧ (s 18).1 ≤ 200 ∧ sm (rq Y s) 0 (s 18).1 ≤ T := by
  obtain ⟨-, -, -, -, -, -, g7, g8, g9, g10⟩ := h
  have h1 : sm (rd Y s) 0 (s 18).1 ≤ sm (rq Y s) 0 (s 18).1 := sm_ge (fun r => by
    unfold rd rq
    have := sm_one (f := wv Y) (a := ou s r) (fun v => wv_pos) (sp Y (im s (oi s r) + 1) 2 - ou s r)
    omega) _
  refine ⟨by omega, by omega, by omega, by omega, by omega, by omega, by omega, by omega⟩
/-- an INSTANCE more: what the tables become -/
def AI (Y s s' : Ts) (c : Nat) (par : Int32) (a0 : Nat) : Prop :=
  (∀ j, j ≠ 1 → j ≠ 11 → j ≠ 12 → j ≠ 13 → j ≠ 18 → s' j = s j) ∧ ((s' 1).1 = (s 1).1 ∧ (∀ q d, d ≠ 7 → (s' 1).2 q d = (s 1).2 q d) ∧ (s' 1).2 c 7 = 1 ∧ ∀ q, q ≠ c → (s' 1).2 q 7 = (s 1).2 q 7) ∧
  ((s' 11).1 = (s 11).1 + 1 ∧ (∀ r q, r < (s 11).1 → (s' 11).2 r q = (s 11).2 r q) ∧ (s' 11).2 (s 11).1 0 = nI c ∧ (s' 11).2 (s 11).1 1 = nI (s 12).1 ∧ (s' 11).2 (s 11).1 2 = nI (s 13).1 ∧ (s' 11).2 (s 11).1 3 = nI (np Y c)) ∧
  ((s' 12).1 = (s 12).1 + nv Y c ∧ ∀ r q, r < (s 12).1 → (s' 12).2 r q = (s 12).2 r q) ∧
  ((s' 13).1 = (s 13).1 + np Y c + ndU Y c ∧ (∀ r q, r < (s 13).1 → (s' 13).2 r q = (s 13).2 r q) ∧
    (∀ p, p < np Y c → (s' 13).2 ((s 13).1 + p) 0 = (Y 5).2 (a0 + p) 0 ∧ (s' 13).2 ((s 13).1 + p) 1 = (Y 5).2 (a0 + p) 1 ∧ (s' 13).2 ((s 13).1 + p) 2 = par ∧ (s' 13).2 ((s 13).1 + p) 5 = 0) ∧
    ∀ p, p < ndU Y c → (s' 13).2 ((s 13).1 + np Y c + p) 0 = (Y 6).2 (sp Y c 3 + p) 1 ∧ (s' 13).2 ((s 13).1 + np Y c + p) 1 = (Y 6).2 (sp Y c 3 + p) 2 ∧ (s' 13).2 ((s 13).1 + np Y c + p) 2 = nI (s 11).1 ∧ (s' 13).2 ((s 13).1 + np Y c + p) 5 = 0) ∧
  ((s' 18).1 = (s 18).1 + 1 ∧ (∀ r q, r < (s 18).1 → (s' 18).2 r q = (s 18).2 r q) ∧ (s' 18).2 (s 18).1 0 = nI (s 11).1 ∧ (s' 18).2 (s 18).1 1 = nI (sp Y c 2))
/-- an INSTANCE has been met -/
theorem GI.mod (h : GI Y s T) (hF : FY Y) (hT : T ≤ 5000) (hr0 : r0 + 1 = (s 18).1) (hi : i = oi s r0) (hu : u = ou s r0) (hk : k = im s i) (hlt : u < sp Y (k + 1) 2) (ht : (Y 3).2 u 1 = 3)
    (hcM : c < (Y 1).1) (h4 : (Y 3).2 u 4 = nI c) (h3 : (Y 3).2 u 3 = nI (np Y c)) (hgv : ∀ p, p < np Y c → rgr Y k false (Y 5) (a0 + p) 0 1)
    {s2 : Ts} (e2 : ∀ j, j ≠ 12 → j ≠ 18 → s2 j = s j) (n12 : (s2 12).1 = (s 12).1) (c12 : ∀ r, r ≠ ia s i + (u - sp Y k 2) → (s2 12).2 r 0 = (s 12).2 r 0) (x12 : (s2 12).2 (ia s i + (u - sp Y k 2)) 0 = nI (s 11).1)
    (n18 : (s2 18).1 = (s 18).1) (c18 : ∀ r q, (r ≠ r0 ∨ q ≠ 1) → (s2 18).2 r q = (s 18).2 r q) (x18 : (s2 18).2 r0 1 = nI (u + 1)) (hA : AI Y s2 s' c (nI i) a0) : GI Y s' T ∧ sm (rq Y s') 0 (s' 18).1 + 1 ≤ sm (rq Y s) 0 (s 18).1 := by
  obtain ⟨z11, z12, z13, z15, z16, z17, z18, zq⟩ := h.sz
  obtain ⟨g1, g2, g3, g4, ⟨g5, g5', gu⟩, g6, g7, g8, g9, g10⟩ := h
  obtain ⟨A0, A1, ⟨A2, A3, A4, A5, A6, A7⟩, ⟨A8, A9⟩, ⟨B1, B2, B3, B4⟩, D1, D2, D3, D4⟩ := hA
  rw [e2 11 (by decide) (by decide)] at A2 A3 A4 A5 A6 A7 D3 B4
  rw [e2 13 (by decide) (by decide)] at A6 B1 B2 B3 B4
  rw [n12] at A5 A8 A9
  rw [n18] at D1 D2 D3 D4
  have b1 := hF.2.2.2.2 1 (by decide)
  have hm : ∀ q, q < (s 11).1 → im s' q = im s q := fun q hq => by unfold im; rw [A3 q 0 hq]
  have ha : ∀ q, q < (s 11).1 → ia s' q = ia s q := fun q hq => by unfold ia; rw [A3 q 1 hq]
  have he : ∀ q, q < (s 11).1 → ie s' q = ie s q := fun q hq => by unfold ie; rw [A3 q 2 hq]
  have hmN : im s' (s 11).1 = c := by unfold im; rw [A4]; exact nI_clamp (by omega)
  have haN : ia s' (s 11).1 = (s 12).1 := by unfold ia; rw [A5]; exact nI_clamp (by omega)
  have heN : ie s' (s 11).1 = (s 13).1 := by unfold ie; rw [A6]; exact nI_clamp (by omega)
  have ho : ∀ r, r < (s 18).1 → oi s' r = oi s r := fun r hr => by unfold oi; rw [D2 r 0 hr, c18 r 0 (Or.inr (by decide))]
  have hw : ∀ r, r < (s 18).1 → r ≠ r0 → ou s' r = ou s r := fun r hr hn => by unfold ou; rw [D2 r 1 hr, c18 r 1 (Or.inl hn)]
  have hoN : oi s' (s 18).1 = (s 11).1 := by unfold oi; rw [D3]; exact nI_clamp (by omega)
  obtain ⟨lc1, lc2, lc3⟩ := hF.le hcM (c := 2) (j := 3) (by decide) (by decide) rfl
  have hwN : ou s' (s 18).1 = sp Y c 2 := by unfold ou; rw [D4]; exact nI_clamp (by omega)
  obtain ⟨⟨o1, o2⟩, o3, o4, o5⟩ := g6 r0 (by omega)
  rw [← hi] at o1 o3 o4 o5
  rw [← hk] at o4 o5
  rw [← hu] at o2 o4 o5
  obtain ⟨gi1, gi2, gi3, gi4, gi5⟩ := g2 i o3
  rw [← hk] at gi2 gi3 gi4 gi5
  obtain ⟨l1, l2, l3⟩ := hF.le gi2 (c := 2) (j := 3) (by decide) (by decide) rfl
  have hw0 : ou s' r0 = u + 1 := by unfold ou; rw [D2 r0 1 (by omega), x18]; exact nI_clamp (by omega)
  have s15 : s' 15 = s 15 := (A0 15 (by decide) (by decide) (by decide) (by decide) (by decide)).trans (e2 15 (by decide) (by decide))
  have s16 : s' 16 = s 16 := (A0 16 (by decide) (by decide) (by decide) (by decide) (by decide)).trans (e2 16 (by decide) (by decide))
  have s17 : s' 17 = s 17 := (A0 17 (by decide) (by decide) (by decide) (by decide) (by decide)).trans (e2 17 (by decide) (by decide))
  have up : ∀ v x, vin Y s v x → vin Y s' v x := fun v x hx => ⟨fun z => by obtain ⟨q, a, b, d⟩ := hx.1 z; exact ⟨q, by omega, b, by rw [hm q a]; exact d⟩, by rw [s15]; exact hx.2⟩
  obtain ⟨⟨ee, ee1, ee2, ee3⟩, -, ii, ii1, ii2, ii3⟩ := (hF.2.2.1 c hcM).resolve_left (hF.2.2.2.1 c hcM)
  obtain ⟨lp1, lp2, lp3⟩ := hF.le hcM (c := 1) (j := 2) (by decide) (by decide) rfl
  have hnp : np Y c ≤ 67108864 := by unfold np; omega
  have ewv : wv Y u = 1 + (np Y c + ee) := wv_mod ht h3 h4 ee1 (by omega) (by omega) (by omega)
  have ewj : wj Y u = ii := wj_mod ht h4 ii1 (by omega) (by omega)
  have hU : Gu s' := ⟨fun q hq => by
    by_cases hqN : q < (s 11).1
    · rw [hm q hqN]
      by_cases hcq : im s q = c
      · rw [hcq, A1.2.2.1]; decide
      · rw [A1.2.2.2 _ hcq, e2 1 (by decide) (by decide)]
        exact gu.1 q hqN
    · have : q = (s 11).1 := by omega
      subst this
      rw [hmN, A1.2.2.1]; decide, by rw [s15]; exact gu.2⟩
  have hQ : sm (rq Y s') 0 (s' 18).1 + 1 + np Y c + ndU Y c ≤ sm (rq Y s) 0 (s 18).1 := by
    have q0 : sm (rq Y s') 0 (r0 + 1 + 1) = sm (rq Y s') 0 (r0 + 1) + rq Y s' (r0 + 1) := sm_last (fun r hr => rfl)
    have q1 : sm (rq Y s') 0 (r0 + 1) = sm (rq Y s) 0 r0 + rq Y s' r0 := sm_last (fun r hr => by have := (g6 r (by omega)).2.1; unfold rq; rw [ho r (by omega), hm _ this, hw r (by omega) (by omega)])
    have q2 : sm (rq Y s) 0 (r0 + 1) = sm (rq Y s) 0 r0 + rq Y s r0 := sm_last (fun r hr => rfl)
    have q3 : rq Y s r0 = rq Y s' r0 + (1 + (np Y c + ee)) := by
      unfold rq
      rw [ho r0 (by omega), hw0, ← hi, hm i o3, ← hk, ← hu, show sp Y (k + 1) 2 - u = (sp Y (k + 1) 2 - (u + 1)) + 1 by omega, sm_head, ewv]
      omega
    have q4 : rq Y s' (r0 + 1) = nc Y c + ws Y (sp Y c 2) (sp Y (c + 1) 2 - sp Y c 2) := by
      unfold rq
      rw [hr0, hoN, hwN, hmN]
      rfl
    have q5 : tot Y c ≤ ee := by rw [← hr0, q2, q3] at zq; omega
    have q6 : ndU Y c + nc Y c + ws Y (sp Y c 2) (sp Y (c + 1) 2 - sp Y c 2) ≤ tot Y c := by unfold tot ndU nc; omega
    rw [D1, ← hr0, q0, q1, q4, q2]
    omega
  refine ⟨⟨⟨fun j h1 h2 => (A0 j h1 (by omega) (by omega) (by omega) (by omega)).trans ((e2 j (by omega) (by omega)).trans (g1.1 j h1 h2)), by rw [A1.1, e2 1 (by decide) (by decide)]; exact g1.2.1, fun q d hd => by rw [A1.2.1 q d hd, e2 1 (by decide) (by decide)]; exact g1.2.2 q d hd⟩, fun q hq => ?_, fun q hq v hv1 hv2 => ?_, fun x hx => ?_, ⟨fun r hr => ?_, fun r hr => ?_, hU⟩, fun r hr => ?_, ?_, ?_, by omega, ?_⟩, by omega⟩
  · by_cases hqN : q < (s 11).1
    · rw [hm q hqN, ha q hqN, he q hqN, A3 q 0 hqN, A3 q 1 hqN, A3 q 2 hqN, A3 q 3 hqN]
      obtain ⟨a, b, d, f, g⟩ := g2 q hqN
      refine ⟨a, b, by omega, by omega, fun i' h1 h2 => ?_⟩
      by_cases hi' : i' < (s 11).1
      · rw [ha i' hi']; exact g i' h1 hi'
      · have : i' = (s 11).1 := by omega
        subst this
        rw [haN]; exact d
    · have : q = (s 11).1 := by omega
      subst this
      rw [hmN, haN, heN]
      exact ⟨⟨A4, A5, A6, A7⟩, hcM, by omega, by omega, fun i' h1 h2 => by omega⟩
  · by_cases hqN : q < (s 11).1
    · rw [hm q hqN] at hv1 hv2 ⊢
      rw [ha q hqN]
      obtain ⟨-, -, q3, -, q5⟩ := g2 q hqN
      have hlt2 : ia s q + (v - sp Y (im s q) 2) < (s 12).1 := by unfold nv at q3; omega
      rw [A9 _ 0 hlt2]
      by_cases hc : ia s q + (v - sp Y (im s q) 2) = ia s i + (u - sp Y k 2)
      · have hqi : q = i := by
          unfold nv at q3 q5 gi3 gi5
          rcases Nat.lt_trichotomy q i with z | z | z
          · have := q5 i z o3; omega
          · exact z
          · have := gi5 q z hqN; omega
        subst hqi
        have hvu : v = u := by rw [← hk] at hc hv1; omega
        subst hvu
        left
        rw [hc, x12]
        exact ⟨fun _ => ⟨(s 11).1, by omega, rfl, by rw [hmN, h4]; exact (nI_clamp (by omega)).symm⟩, fun z => absurd ht z⟩
      · rcases g3 q hqN v hv1 hv2 with z | ⟨r, z1, z2, z3⟩
        · left
          rw [c12 _ hc]
          exact up _ _ z
        · right
          by_cases hr : r = r0
          · refine ⟨r, by omega, by rw [ho r z1]; exact z2, ?_⟩
            rw [hr] at z2 z3 ⊢
            rw [hw0]
            rw [← hi] at z2
            subst z2
            rw [← hk] at hc
            rw [← hu] at z3
            by_cases hvu : v = u
            · subst hvu; exact absurd rfl hc
            · omega
          · exact ⟨r, by omega, by rw [ho r z1]; exact z2, by rw [hw r z1 hr]; exact z3⟩
    · have : q = (s 11).1 := by omega
      subst this
      rw [hmN] at hv1
      exact Or.inr ⟨(s 18).1, by omega, hoN, by rw [hwN]; exact hv1⟩
  · by_cases h1 : x < (s 13).1
    · rw [B2 x 0 h1, B2 x 1 h1, B2 x 2 h1, B2 x 5 h1]
      obtain ⟨⟨a, b, q, y1, y2, y3, y4, y5⟩, y6⟩ := g4 x h1
      exact ⟨⟨a, b, q, y1, y2, y3, by omega, by rw [hm q y4]; exact y5⟩, y6⟩
    · by_cases h2 : x < (s 13).1 + np Y c
      · obtain ⟨p, rfl⟩ : ∃ p, x = (s 13).1 + p := ⟨x - (s 13).1, by omega⟩
        obtain ⟨y1, y2, y3, y4⟩ := B3 p (by omega)
        obtain ⟨a, b, w1, w2, w3⟩ := hgv p (by omega)
        exact ⟨⟨a, b, i, y1.trans w1, y2.trans w2, y3, by omega, by rw [hm i o3, ← hk]; exact w3⟩, y4⟩
      · obtain ⟨p, rfl⟩ : ∃ p, x = (s 13).1 + np Y c + p := ⟨x - (s 13).1 - np Y c, by omega⟩
        obtain ⟨y1, y2, y3, y4⟩ := B4 p (by omega)
        have hp : p < ndU Y c := by omega
        unfold ndU at hp
        obtain ⟨a, b, w1, w2, w3⟩ := hF.1.2.2.1.2.1 c hcM (sp Y c 3 + p) (by omega) (by omega)
        exact ⟨⟨a, b, (s 11).1, y1.trans w1, y2.trans w2, y3, by omega, by rw [hmN]; exact w3⟩, y4⟩
  · rw [s16] at hr ⊢
    obtain ⟨a, b, q, y1, y2, y3, y4, y5⟩ := g5 r hr
    exact ⟨a, b, q, y1, y2, y3, by omega, by rw [hm q y4]; exact y5⟩
  · rw [s17] at hr ⊢
    obtain ⟨a, b, q, y1, y2, y3, y4, y5⟩ := g5' r hr
    exact ⟨a, b, q, y1, y2, y3, by omega, by rw [hm q y4]; exact y5⟩
  · by_cases h1 : r < (s 18).1
    · obtain ⟨y1, y2, y3, y4⟩ := g6 r h1
      by_cases hrr : r = r0
      · subst hrr
        rw [ho r h1, hw0, D2 r 0 h1, D2 r 1 h1, c18 r 0 (Or.inr (by decide)), x18, ← hi, hm i o3, ← hk]
        exact ⟨⟨o1, rfl⟩, by omega, by omega, by omega⟩
      · rw [ho r h1, hw r h1 hrr, D2 r 0 h1, D2 r 1 h1, c18 r 0 (Or.inr (by decide)), c18 r 1 (Or.inl hrr), hm _ y2]
        exact ⟨y1, by omega, y3, y4⟩
    · have : r = (s 18).1 := by omega
      subst this
      rw [hoN, hwN, hmN]
      exact ⟨⟨D3, D4⟩, by omega, Nat.le_refl _, lc1⟩
  · rw [A2, B1, s15, s16, s17]
    omega
  · have q0 : sm (rd Y s') 0 (r0 + 1 + 1) = sm (rd Y s') 0 (r0 + 1) + rd Y s' (r0 + 1) := sm_last (fun r hr => rfl)
    have q1 : sm (rd Y s') 0 (r0 + 1) = sm (rd Y s) 0 r0 + rd Y s' r0 := sm_last (fun r hr => by have := (g6 r (by omega)).2.1; unfold rd; rw [ho r (by omega), hm _ this, hw r (by omega) (by omega)])
    have q2 : sm (rd Y s) 0 (r0 + 1) = sm (rd Y s) 0 r0 + rd Y s r0 := sm_last (fun r hr => rfl)
    have q3 : rd Y s r0 = rd Y s' r0 + 1 := by
      unfold rd
      rw [ho r0 (by omega), hw0, ← hi, hm i o3, ← hk, ← hu]
      omega
    have q4 : rd Y s' (r0 + 1) = nv Y c := by
      unfold rd
      rw [hr0, hoN, hwN, hmN]
      rfl
    rw [D1, A2, A8, s15, ← hr0, q0, q1, q4]
    rw [← hr0, q2, q3] at g8
    omega
  · have q0 : sm (rj Y s') 0 (r0 + 1 + 1) = sm (rj Y s') 0 (r0 + 1) + rj Y s' (r0 + 1) := sm_last (fun r hr => rfl)
    have q1 : sm (rj Y s') 0 (r0 + 1) = sm (rj Y s) 0 r0 + rj Y s' r0 := sm_last (fun r hr => by have := (g6 r (by omega)).2.1; unfold rj; rw [ho r (by omega), hm _ this, hw r (by omega) (by omega)])
    have q2 : sm (rj Y s) 0 (r0 + 1) = sm (rj Y s) 0 r0 + rj Y s r0 := sm_last (fun r hr => rfl)
    have q3 : rj Y s r0 = rj Y s' r0 + ii := by
      unfold rj
      rw [ho r0 (by omega), hw0, ← hi, hm i o3, ← hk, ← hu, show sp Y (k + 1) 2 - u = (sp Y (k + 1) 2 - (u + 1)) + 1 by omega, sm_head, ewj]
      omega
    have q4 : rj Y s' (r0 + 1) = sm (wj Y) (sp Y c 2) (sp Y (c + 1) 2 - sp Y c 2) := by
      unfold rj
      rw [hr0, hoN, hwN, hmN]
    rw [D1, A2, ← hr0, q0, q1, q4]
    rw [← hr0, q2, q3] at g10
    omega
/-- the first INSTANCE -/
theorem GI.first (hF : FY Y) (hz : fz Y s) (z11 : (s 11).1 = 0) (z12 : (s 12).1 = 0) (z13 : (s 13).1 = 0) (z15 : (s 15).1 = 0) (z16 : (s 16).1 = 0) (z17 : (s 17).1 = 0) (z18 : (s 18).1 = 0)
    (hcM : c < (Y 1).1) (hnp : np Y c = 0) {ee ii : Nat} (he : (Y 1).2 c 10 = nI ee) (hee : ee ≤ 4000) (hi : (Y 1).2 c 9 = nI ii) (hii : ii ≤ 200) {par : Int32} (hA : AI Y s s' c par a0) : GI Y s' 4001 := by
  obtain ⟨A0, A1, ⟨A2, A3, A4, A5, A6, A7⟩, ⟨A8, A9⟩, ⟨B1, B2, B3, B4⟩, D1, D2, D3, D4⟩ := hA
  rw [z11] at A2 A4 A5 A6 A7 D3 B4
  rw [z12] at A5 A8
  rw [z13] at A6 B1 B4
  rw [z18] at D1 D3 D4
  have b1 := hF.2.2.2.2 1 (by decide)
  obtain ⟨lc1, lc2, lc3⟩ := hF.le hcM (c := 2) (j := 3) (by decide) (by decide) rfl
  have hmN : im s' 0 = c := by unfold im; rw [A4]; exact nI_clamp (by omega)
  have haN : ia s' 0 = 0 := by unfold ia; rw [A5]; exact nI_clamp (by decide)
  have heN : ie s' 0 = 0 := by unfold ie; rw [A6]; exact nI_clamp (by decide)
  have hoN : oi s' 0 = 0 := by unfold oi; rw [D3]; exact nI_clamp (by decide)
  have hwN : ou s' 0 = sp Y c 2 := by unfold ou; rw [D4]; exact nI_clamp (by omega)
  have s15 : (s' 15).1 = 0 := by rw [A0 15 (by decide) (by decide) (by decide) (by decide) (by decide)]; exact z15
  have s16 : (s' 16).1 = 0 := by rw [A0 16 (by decide) (by decide) (by decide) (by decide) (by decide)]; exact z16
  have s17 : (s' 17).1 = 0 := by rw [A0 17 (by decide) (by decide) (by decide) (by decide) (by decide)]; exact z17
  obtain ⟨⟨e', e1, e2, e3⟩, -, i', i1, i2, i3⟩ := (hF.2.2.1 c hcM).resolve_left (hF.2.2.2.1 c hcM)
  have ee' : e' = ee := nI_inj (by omega) (by omega) (e1.symm.trans he)
  have ii' : i' = ii := nI_inj (by omega) (by omega) (i1.symm.trans hi)
  subst ee' ii'
  refine ⟨⟨fun j h1 h2 => (A0 j h1 (by omega) (by omega) (by omega) (by omega)).trans (hz.1 j h1 h2), A1.1.trans hz.2.1, fun q d hd => (A1.2.1 q d hd).trans (hz.2.2 q d hd)⟩, fun q hq => ?_, fun q hq v hv1 hv2 => ?_, fun x hx => ?_, ⟨fun r hr => by omega, fun r hr => by omega, fun q hq => by
    have : q = 0 := by omega
    subst this
    rw [hmN, A1.2.2.1]; decide, fun w hw => by rw [A0 15 (by decide) (by decide) (by decide) (by decide) (by decide), z15] at hw; omega⟩, fun r hr => ?_, ?_, ?_, by omega, ?_⟩
  · have : q = 0 := by omega
    subst this
    rw [hmN, haN, heN]
    exact ⟨⟨A4, A5, A6, A7⟩, hcM, by omega, by omega, fun i' h1 h2 => by omega⟩
  · have : q = 0 := by omega
    subst this
    rw [hmN] at hv1
    exact Or.inr ⟨0, by omega, hoN, by rw [hwN]; exact hv1⟩
  · have hx2 : x < ndU Y c := by omega
    obtain ⟨y1, y2, y3, y4⟩ := B4 x hx2
    rw [hnp, show 0 + 0 + x = x by omega] at y1 y2 y3 y4
    obtain ⟨a, b, w1, w2, w3⟩ := hF.1.2.2.1.2.1 c hcM (sp Y c 3 + x) (by omega) (by unfold ndU at hx2; omega)
    exact ⟨⟨a, b, 0, y1.trans w1, y2.trans w2, y3, by omega, by rw [hmN]; exact w3⟩, y4⟩
  · have : r = 0 := by omega
    subst this
    rw [hoN, hwN, hmN]
    exact ⟨⟨D3, D4⟩, by omega, Nat.le_refl _, lc1⟩
  · have q4 : sm (rq Y s') 0 1 = nc Y c + ws Y (sp Y c 2) (sp Y (c + 1) 2 - sp Y c 2) := by
      show 0 + rq Y s' (0 + 0) = _
      rw [Nat.zero_add, Nat.zero_add]
      unfold rq
      rw [hoN, hwN, hmN]
      rfl
    have q6 : ndU Y c + nc Y c + ws Y (sp Y c 2) (sp Y (c + 1) 2 - sp Y c 2) ≤ tot Y c := by unfold tot ndU nc; omega
    rw [D1, A2, B1, s15, s16, s17, show 0 + 1 = 1 from rfl, q4]
    omega
  · have q4 : sm (rd Y s') 0 1 = nv Y c := by
      show 0 + rd Y s' (0 + 0) = _
      rw [Nat.zero_add, Nat.zero_add]
      unfold rd
      rw [hoN, hwN, hmN]
      rfl
    rw [D1, A2, A8, s15, show 0 + 1 = 1 from rfl, q4]
    omega
  · have q4 : sm (rj Y s') 0 1 = sm (wj Y) (sp Y c 2) (sp Y (c + 1) 2 - sp Y c 2) := by
      show 0 + rj Y s' (0 + 0) = _
      rw [Nat.zero_add, Nat.zero_add]
      unfold rj
      rw [hoN, hwN, hmN]
    rw [D1, A2, show 0 + 1 = 1 from rfl, q4]
    omega
end Growing
