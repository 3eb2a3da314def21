/-! WHAT HAS A SORT: values are of their SORT -/
theorem okn_16 (x : Int16) : okn x.toInt32 := by
  have h1 := x.le_toInt
  have h2 := x.toInt_lt
  have e1 : -(2 : Int) ^ 15 = -32768 := by decide
  have e2 : (2 : Int) ^ 15 = 32768 := by decide
  unfold okn
  rw [Int16.toInt_toInt32]
  omega
theorem tdiv_le (a b : Int) : (a.tdiv b).natAbs ≤ a.natAbs := by
  rw [Int.natAbs_tdiv]
  exact Nat.div_le_self _ _
theorem tmod_le (a b : Int) : (a.tmod b).natAbs ≤ a.natAbs := by
  rw [Int.natAbs_tmod]
  exact Nat.mod_le _ _
theorem okn_mod {a b : Int32} (ha : okn a) (hb : okn b) (h0 : ¬ b = 0) : okn (a - a / b * b) := by
  obtain ⟨a1, a2⟩ := ha
  obtain ⟨b1, b2⟩ := hb
  have hd : (a / b).toInt = a.toInt.tdiv b.toInt := by
    rw [Int32.toInt_div]
    have := tdiv_le a.toInt b.toInt
    exact bm32 (by omega) (by omega)
  have hm := Int.mul_tdiv_add_tmod a.toInt b.toInt
  have hle := tmod_le a.toInt b.toInt
  have e : a.toInt.tdiv b.toInt * b.toInt = a.toInt - a.toInt.tmod b.toInt := by rw [Int.mul_comm]; omega
  have hs : (a - a / b * b).toInt = a.toInt.tmod b.toInt := by
    have e3 : (a.toInt - a.toInt.tmod b.toInt).bmod (2 ^ 32) = a.toInt - a.toInt.tmod b.toInt := bm32 (by omega) (by omega)
    rw [Int32.toInt_sub, Int32.toInt_mul, hd, e, e3, bm32 (by omega) (by omega)]
    omega
  unfold okn
  rw [hs]
  by_cases h5 : 0 ≤ a.toInt
  · have := Int.tmod_nonneg b.toInt h5
    omega
  · have := Int.tmod_nonneg b.toInt (show 0 ≤ -a.toInt by omega)
    rw [Int.neg_tmod] at this
    omega

/-- a value is of a SORT -/
def cfm (s x : Int32) : Prop := (s = 1 → x = 0 ∨ x = 1) ∧ (s = 2 → okn x)
/-- which open parts are CHOICES -/
def kdz (Y : Ts) (a : Nat) : Nat → Nat → Bool
  | 0, _ => false
  | n + 1, k => if k = tpz Y a n - plen (oc Y (a + n)) (oa Y (a + n)) then decide (32 ≤ oc Y (a + n)) else kdz Y a n k
section Typing
variable {a b x y : Int32} {kk o p q t f n N i k A : Nat} {Y : Ts} {L L' : List Bool} {kd : Bool} {es : Nat → Int32} {al : Int32} {rs lv c : Nat → Int32}
theorem okn_0 : okn 0 := by unfold okn; decide
theorem jo_1 (h : 4 ≤ kk ∧ kk ≤ 9) (ha : a = 0 ∨ a = 1) (hb : b = 0 ∨ b = 1) : jo (nI kk) a b = 0 ∨ jo (nI kk) a b = 1 := by
  have hk : kk = 4 ∨ kk = 5 ∨ kk = 6 ∨ kk = 7 ∨ kk = 8 ∨ kk = 9 := by omega
  rcases hk with rfl | rfl | rfl | rfl | rfl | rfl <;> rcases ha with rfl | rfl <;> rcases hb with rfl | rfl <;> decide
theorem if_01 {P : Prop} [Decidable P] : (if P then (1 : Int32) else 0) = 0 ∨ (if P then (1 : Int32) else 0) = 1 := by split; exact Or.inr rfl; exact Or.inl rfl
theorem if_10 {P : Prop} [Decidable P] : (if P then (0 : Int32) else 1) = 0 ∨ (if P then (0 : Int32) else 1) = 1 := by split; exact Or.inl rfl; exact Or.inr rfl
theorem jo_2 (h : 16 ≤ kk ∧ kk ≤ 21) : jo (nI kk) a b = 0 ∨ jo (nI kk) a b = 1 := by
  have hk : kk = 16 ∨ kk = 17 ∨ kk = 18 ∨ kk = 19 ∨ kk = 20 ∨ kk = 21 := by omega
  rcases hk with rfl | rfl | rfl | rfl | rfl | rfl
  · exact if_01 (P := a = b)
  · exact if_10 (P := a = b)
  · exact if_01 (P := a < b)
  · exact if_10 (P := b < a)
  · exact if_01 (P := b < a)
  · exact if_10 (P := a < b)
theorem jo_3 (h : 22 ≤ kk ∧ kk ≤ 27) (ha : okn a) (hb : okn b) : okn (jo (nI kk) a b) := by
  have hk : kk = 22 ∨ kk = 23 ∨ kk = 24 ∨ kk = 25 ∨ kk = 26 ∨ kk = 27 := by omega
  rcases hk with rfl | rfl | rfl | rfl | rfl | rfl
  · exact okn_16 _
  · exact okn_16 _
  · exact okn_16 _
  · show okn (if b = 0 then 0 else (a / b).toInt16.toInt32)
    split
    · exact okn_0
    · exact okn_16 _
  · show okn (if b = 0 then 0 else a - a / b * b)
    split
    · exact okn_0
    · exact okn_mod ha hb (by assumption)
  · exact okn_16 _
theorem pkz_cfm (h0 : cfm x y) : ∀ p f, (∀ q, q < p → cfm x (c (f + 2 * q + 1))) → cfm x (pkz c y p f)
  | 0, f, _ => h0
  | p + 1, f, h => by
    show cfm x (if c f = 0 then pkz c y p (f + 2) else c (f + 1))
    split
    · exact pkz_cfm h0 p (f + 2) (fun q hq => by have := h (q + 1) (by omega); rw [show f + 2 * (q + 1) + 1 = f + 2 + 2 * q + 1 by omega] at this; exact this)
    · exact h 0 (by omega)
theorem innz_01 {x : Int32} : ∀ n f, innz c x n f = 0 ∨ innz c x n f = 1
  | 0, _ => Or.inl rfl
  | n + 1, f => by
    show (if c f = x then (1 : Int32) else innz c x n (f + 1)) = 0 ∨ (if c f = x then (1 : Int32) else innz c x n (f + 1)) = 1
    split
    · exact Or.inr rfl
    · exact innz_01 n (f + 1)
theorem cfm_1 {v : Int32} (h : v = 0 ∨ v = 1) : cfm 1 v := ⟨fun _ => h, fun z => absurd z (by decide)⟩
theorem cfm_2 {v : Int32} (h : okn v) : cfm 2 v := ⟨fun z => absurd z (by decide), fun _ => h⟩
theorem cfm_9 {v : Int32} : cfm 9 v := ⟨fun z => absurd z (by decide), fun z => absurd z (by decide)⟩
theorem cfm_3 {v : Int32} : cfm 3 v := ⟨fun z => absurd z (by decide), fun z => absurd z (by decide)⟩
theorem cfm_0 (h : ¬ x = 9) : cfm x 0 := ⟨fun _ => Or.inl rfl, fun _ => okn_0⟩
theorem kst_kd {A : Nat} : ∀ {n : Nat} {L : List Bool}, kst (Y 0) A n = some L → ∀ k, k < tpz Y A n → L[tpz Y A n - 1 - k]? = some (kdz Y A n k)
  | 0, L, _, k, hk => absurd hk (Nat.not_lt_zero _)
  | n + 1, L, h, k, hk => by
    obtain ⟨L', h1, h2⟩ := kst_step h
    obtain ⟨t, h3, h4⟩ := ktake_some h2
    have h5 := kst_tp h1
    have ih := kst_kd h1
    rw [h3, List.length_append, kin_len] at h5
    have e1 : tpz Y A (n + 1) = tpz Y A n - plen (oc Y (A + n)) (oa Y (A + n)) + 1 := rfl
    rw [e1] at hk ⊢
    show _ = some (if k = tpz Y A n - plen (oc Y (A + n)) (oa Y (A + n)) then decide (32 ≤ oc Y (A + n)) else kdz Y A n k)
    by_cases e : k = tpz Y A n - plen (oc Y (A + n)) (oa Y (A + n))
    · rw [if_pos e, h4, show tpz Y A n - plen (oc Y (A + n)) (oa Y (A + n)) + 1 - 1 - k = 0 by omega]; rfl
    · rw [if_neg e, ← ih k (by omega), h3, h4]
      obtain ⟨z, hz⟩ : ∃ z, tpz Y A n - plen (oc Y (A + n)) (oa Y (A + n)) + 1 - 1 - k = z + 1 := ⟨tpz Y A n - plen (oc Y (A + n)) (oa Y (A + n)) - 1 - k, by omega⟩
      rw [hz, List.getElem?_cons_succ, List.getElem?_append_right (by rw [kin_len]; omega), kin_len]
      congr 1
      omega
theorem kd_part {A : Nat} (h : kst (Y 0) A (n + 1) = some L) (h1 : tpz Y A n - plen (oc Y (A + n)) (oa Y (A + n)) ≤ k) (h2 : k < tpz Y A n) : (kin (oc Y (A + n)) (oa Y (A + n)))[tpz Y A n - 1 - k]? = some (kdz Y A n k) := by
  obtain ⟨L', y1, y2⟩ := kst_step h
  obtain ⟨t, y3, y4⟩ := ktake_some y2
  have y5 := kst_tp y1
  have ih := kst_kd y1 k h2
  rw [y3, List.length_append, kin_len] at y5
  rw [y3, List.getElem?_append_left (by rw [kin_len]; omega)] at ih
  exact ih
theorem kd_false {A : Nat} (h : kst (Y 0) A (n + 1) = some L) (ho : ¬ oc Y (A + n) = 34) (h1 : tpz Y A n - plen (oc Y (A + n)) (oa Y (A + n)) ≤ k) (h2 : k < tpz Y A n) : kdz Y A n k = false := by
  have z := kd_part h h1 h2
  have hm := List.mem_of_getElem? z
  unfold kin at hm
  split at hm
  · exact absurd hm (by simp)
  · split at hm
    · simpa using hm
    · split at hm
      · exact (List.mem_replicate.mp hm).2
      · split at hm
        · exact (List.mem_replicate.mp hm).2
        · split at hm
          · exact (List.mem_replicate.mp hm).2
          · first
            | simpa using hm
            | (split at hm
               · omega
               · simpa using hm)
theorem rep2_odd : ∀ a q, q < a → (rep2 a)[2 * q + 1]? = some false
  | 0, _, h => absurd h (Nat.not_lt_zero _)
  | a + 1, 0, _ => rfl
  | a + 1, q + 1, h => by
    rw [show 2 * (q + 1) + 1 = 2 * q + 1 + 1 + 1 by omega]
    show (true :: false :: rep2 a)[2 * q + 1 + 1 + 1]? = _
    rw [List.getElem?_cons_succ, List.getElem?_cons_succ]
    exact rep2_odd a q (by omega)
theorem kin_34 {a : Nat} : kin 34 a = rep2 a := by
  unfold kin
  rw [if_neg (by omega), if_neg (by omega), if_neg (by omega), if_neg (by omega), if_neg (by omega), if_pos rfl]
theorem plen_34 {a : Nat} : plen 34 a = 2 * a := by
  unfold plen
  rw [if_neg (by omega), if_neg (by omega), if_neg (by omega), if_neg (by omega), if_neg (by omega), if_pos rfl]
theorem plen_31 {a : Nat} : plen 31 a = 2 * a := by
  unfold plen
  rw [if_neg (by omega), if_neg (by omega), if_neg (by omega), if_neg (by omega), if_pos rfl]
theorem kd_cond {A : Nat} (h : kst (Y 0) A (n + 1) = some L) (ho : oc Y (A + n) = 34) (hp : plen (oc Y (A + n)) (oa Y (A + n)) ≤ tpz Y A n) (hq : 2 * q + 1 < plen (oc Y (A + n)) (oa Y (A + n))) : kdz Y A n (tpz Y A n - plen (oc Y (A + n)) (oa Y (A + n)) + 2 * q) = false := by
  have z := kd_part h (k := tpz Y A n - plen (oc Y (A + n)) (oa Y (A + n)) + 2 * q) (by omega) (by omega)
  rw [ho, kin_34, plen_34] at z
  rw [ho, plen_34] at hp hq
  rw [ho, plen_34]
  rw [show tpz Y A n - 1 - (tpz Y A n - 2 * oa Y (A + n) + 2 * q) = 2 * (oa Y (A + n) - 1 - q) + 1 by omega, rep2_odd _ _ (by omega)] at z
  exact (Option.some.inj z).symm
theorem plen_1 {o a : Nat} (h3 : 3 < o) (ha : o = 30 ∨ o = 31 ∨ o = 33 ∨ o = 34 → 1 ≤ a) : 1 ≤ plen o a := by
  unfold plen
  rw [if_neg (by omega)]
  split
  · omega
  · split
    · omega
    · split
      · exact ha (by omega)
      · split
        · have := ha (by omega); omega
        · split
          · have := ha (by omega); omega
          · omega
/-- what is not timed -/
theorem jok_op {S : Nat → Int32} {b p : Nat} (h : jok S o b p al x) (hal : ¬ al = 2) : (4 ≤ o ∧ o ≤ 9) ∨ (16 ≤ o ∧ o ≤ 27) ∨ 30 ≤ o ∨ o ≤ 9 := by
  rcases h with z | z | z | z | z | z
  · exact absurd z.2.1 hal
  · exact Or.inr (Or.inr (Or.inr z.1.2))
  · omega
  · omega
  · omega
  · omega
theorem ro_jo (h : ¬ (o = 31 ∨ o = 34)) (h2 : ¬ o = 30) (ho : o ≤ 34) : ro c (nI o) f t = jo (nI o) (c f) (c (t - 1)) := by
  unfold ro
  rw [if_neg (fun z => h (z.imp (fun y => (nI_eq (b := 31) (by omega) (by decide)).mp y) (fun y => (nI_eq (b := 34) (by omega) (by decide)).mp y))), if_neg (show ¬ nI o = (30 : Int32) from fun z => h2 ((nI_eq (b := 30) (by omega) (by decide)).mp z))]
/-- open parts that are E are of their SORTS -/
theorem typ_n {A : Nat} (hc : Cc Y) (hr : rg Y k kd A (A + N)) (hs : SRT Y es i al A rs N) (hal : ¬ al = 2) (hlf : ∀ n, n < N → oc Y (A + n) ≤ 3 → cfm (rs n) (lv (A + n))) : ∀ n, n ≤ N → ∀ q, q < tpz Y A n → kdz Y A n q = false → cfm (stk Y rs A n q) (svz Y lv A n q) := by
  intro n
  induction n with
  | zero => intro _ q hq; exact absurd hq (Nat.not_lt_zero _)
  | succ n ih =>
    intro hn q hq hk
    have ih := ih (by omega)
    obtain ⟨h0, hl, hj⟩ := hs n (by omega)
    obtain ⟨ok1, ok2, ok3⟩ := okc_n hc (show A + n < (Y 0).1 by have := hr.2.1; omega)
    have hpl := (rg_n hr (n := n) (by omega)).1
    obtain ⟨L, hL⟩ := kst_le hr.2.2.1 (show n + 1 ≤ A + N - A by omega)
    have e1 : tpz Y A (n + 1) = tpz Y A n - plen (oc Y (A + n)) (oa Y (A + n)) + 1 := rfl
    rw [e1] at hq
    have hk : (if q = tpz Y A n - plen (oc Y (A + n)) (oa Y (A + n)) then decide (32 ≤ oc Y (A + n)) else kdz Y A n q) = false := hk
    show cfm (if q = tpz Y A n - plen (oc Y (A + n)) (oa Y (A + n)) then rs n else stk Y rs A n q) (if q = tpz Y A n - plen (oc Y (A + n)) (oa Y (A + n)) then (if oc Y (A + n) ≤ 3 then lv (A + n) else if oc Y (A + n) = 32 ∨ oc Y (A + n) = 33 then nI (snz Y A n) else ro (svz Y lv A n) (nI (oc Y (A + n))) (tpz Y A n - plen (oc Y (A + n)) (oa Y (A + n))) (tpz Y A n)) else svz Y lv A n q)
    by_cases eq : q = tpz Y A n - plen (oc Y (A + n)) (oa Y (A + n))
    · rw [if_pos eq] at hk
      rw [if_pos eq, if_pos eq]
      have h32 : oc Y (A + n) < 32 := by
        have := of_decide_eq_false hk
        omega
      by_cases h3 : oc Y (A + n) ≤ 3
      · rw [if_pos h3]; exact hlf n (by omega) h3
      · rw [if_neg h3, if_neg (by omega)]
        have hp1 := plen_1 (o := oc Y (A + n)) (a := oa Y (A + n)) (by omega) (fun z => (ok3 z).2.1)
        have hJ := hj hp1
        have part : ∀ q, tpz Y A n - plen (oc Y (A + n)) (oa Y (A + n)) ≤ q → q < tpz Y A n → cfm (stk Y rs A n q) (svz Y lv A n q) := fun q h1 h2 => ih q h2 (kd_false hL (by omega) h1 h2)
        generalize hP : plen (oc Y (A + n)) (oa Y (A + n)) = P at *
        generalize hT : tpz Y A n = T at *
        rcases hJ with z | ⟨z1, z2, z3⟩ | ⟨z1, z2, z3⟩ | ⟨z1, z2, z3, z4⟩ | ⟨z1, z2, z3, z4⟩ | ⟨z1, z2, z3⟩
        · exact absurd z.2.1 hal
        · rw [ro_jo (by omega) (by omega) ok2]
          rcases z3 with ⟨y1, y2⟩ | ⟨y1, -⟩
          · rw [y1]
            have pa := (part (T - P) (Nat.le_refl _) (by omega)).1 (y2 _ (Nat.le_refl _) (by omega))
            have pb := (part (T - 1) (by omega) (by omega)).1 (y2 _ (by omega) (by omega))
            exact cfm_1 (jo_1 (by omega) pa pb)
          · rw [y1]; exact cfm_9
        · have h31 : oc Y (A + n) = 31 := by omega
          have hro : ro (svz Y lv A n) (nI (oc Y (A + n))) (T - P) T = pkz (svz Y lv A n) 0 ((T - (T - P)) / 2) (T - P) := by
            rw [h31]; rfl
          rw [hro]
          have hP2 : P = 2 * oa Y (A + n) := by rw [← hP, h31, plen_31]
          refine pkz_cfm (cfm_0 z2) _ _ (fun q hq => ?_)
          have := part (T - P + 2 * q + 1) (by omega) (by omega)
          rw [(z3 q (by omega)).2] at this
          exact this
        · rw [z4]
          by_cases h30 : oc Y (A + n) = 30
          · have hro : ro (svz Y lv A n) (nI (oc Y (A + n))) (T - P) T = innz (svz Y lv A n) (svz Y lv A n (T - P)) (T - (T - P + 1)) (T - P + 1) := by rw [h30]; rfl
            rw [hro]
            exact cfm_1 (innz_01 _ _)
          · rw [ro_jo (by omega) h30 ok2]
            exact cfm_1 (jo_2 (by omega))
        · omega
        · rw [z3, ro_jo (by omega) (by omega) ok2]
          have pa := (part (T - P) (Nat.le_refl _) (by omega)).2 (z2 _ (Nat.le_refl _) (by omega))
          have pb := (part (T - 1) (by omega) (by omega)).2 (z2 _ (by omega) (by omega))
          by_cases h22 : 22 ≤ oc Y (A + n)
          · rw [if_pos h22]; exact cfm_2 (jo_3 (by omega) pa pb)
          · rw [if_neg h22]; exact cfm_1 (jo_2 (by omega))
    · rw [if_neg eq] at hk
      rw [if_neg eq, if_neg eq]
      exact ih q (by omega) hk
/-- each operator finds what it needs -/
theorem okz_of {A l : Nat} {lv : Nat → Nat → Int32} (hc : Cc Y) (hr : rg Y k kd A (A + N)) (hs : SRT Y es i al A rs N) (hal : ¬ al = 2) (hlf : ∀ j, j < l → ∀ n, n < N → oc Y (A + n) ≤ 3 → cfm (rs n) (lv j (A + n))) : ∀ n, n < N → okz Y A n l lv := by
  intro n hn
  obtain ⟨ok1, ok2, ok3⟩ := okc_n hc (show A + n < (Y 0).1 by have := hr.2.1; omega)
  have hpl := (rg_n hr (n := n) (by omega)).1
  obtain ⟨h0, hl, hj⟩ := hs n hn
  obtain ⟨L, hL⟩ := kst_le hr.2.2.1 (show n + 1 ≤ A + N - A by omega)
  have ty := fun j (hjl : j < l) => typ_n (lv := lv j) hc hr hs hal (hlf j hjl) n (by omega)
  refine ⟨⟨ok1, ok2, hpl⟩, fun h3 => ?_, fun z => ⟨(ok3 z).1, (ok3 z).2.2⟩, fun h34 q h1 h2 h4 j hjl => ?_, fun hop j hjl => ?_⟩
  · have hp1 := plen_1 (o := oc Y (A + n)) (a := oa Y (A + n)) h3 (fun z => (ok3 z).2.1)
    have := jok_op (hj hp1) hal
    exact ⟨by omega, hp1⟩
  · have hp1 := plen_1 (o := oc Y (A + n)) (a := oa Y (A + n)) (by omega) (fun z => (ok3 z).2.1)
    have hP2 : plen (oc Y (A + n)) (oa Y (A + n)) = 2 * oa Y (A + n) := by
      rcases h34 with z | z <;> rw [z]
      · exact plen_31
      · exact plen_34
    obtain ⟨y, hy⟩ : ∃ y, q = tpz Y A n - plen (oc Y (A + n)) (oa Y (A + n)) + 2 * y := ⟨(q - (tpz Y A n - plen (oc Y (A + n)) (oa Y (A + n)))) / 2, by omega⟩
    have hS : stk Y rs A n q = 1 := by
      rcases hj hp1 with z | ⟨z, -⟩ | ⟨-, -, z⟩ | ⟨z, -⟩ | ⟨z, -⟩ | ⟨z, -⟩
      · exact absurd z.2.1 hal
      · omega
      · rw [hy]; exact (z y (by omega)).1
      · omega
      · omega
      · omega
    refine (ty j hjl q h2 ?_).1 hS
    rcases h34 with z | z
    · exact kd_false hL (by omega) h1 h2
    · rw [hy]; exact kd_cond hL z hpl (by omega)
  · have hp1 := plen_1 (o := oc Y (A + n)) (a := oa Y (A + n)) (by omega) (fun z => (ok3 z).2.1)
    have hS : ∀ q, tpz Y A n - plen (oc Y (A + n)) (oa Y (A + n)) ≤ q → q < tpz Y A n → stk Y rs A n q = 2 := by
      rcases hj hp1 with z | ⟨z, -⟩ | ⟨z, -⟩ | ⟨z, -⟩ | ⟨z, -⟩ | ⟨-, z, -⟩
      · exact absurd z.2.1 hal
      · omega
      · omega
      · omega
      · omega
      · exact fun q h1 h2 => z q h1 (by omega)
    exact ⟨(ty j hjl _ (by omega) (kd_false hL (by omega) (Nat.le_refl _) (by omega))).2 (hS _ (Nat.le_refl _) (by omega)), (ty j hjl _ (by omega) (kd_false hL (by omega) (by omega) (by omega))).2 (hS _ (by omega) (by omega))⟩
end Typing
