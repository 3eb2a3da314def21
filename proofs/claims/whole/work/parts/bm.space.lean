/-! THE SPACE: digits, sizes, what a valuation is among those of a mask -/
/-- the bit of a mask -/
def mb (x : Int32) (k : Nat) : Int32 := ((x.toUInt32 >>> ((nI k).toUInt32 &&& Int32.toUInt32 31)).toInt32 &&& (1 : Int32))
/-- the Space as begin leaves it: P places of sizes f -/
def spx (m : Nat) (U : Ud) (P : Nat) (f : Nat → Nat) : Prop :=
  (U.2.1 99 4 = nI P ∧ U.2.1 99 10 = nI (sm f 0 P) ∧ U.2.1 99 11 = nI (pd f 0 P) ∧ U.2.1 99 12 = nI ((pd f 0 P + 63) / 64)) ∧
  (∀ k, k < P → (U.2.2.1 99 5).2 k = nI (f k) ∧ (U.2.2.1 99 7).2 k = nI (sm f 0 k) ∧ (U.2.2.1 99 6).2 k = nI (pd f (k + 1) (P - 1 - k)) ∧ 2 ≤ f k) ∧
  (sm f 0 P + 4 ≤ (U.2.2.1 99 8).1 ∧ (U.2.2.1 99 8).1 ≤ 16777216 ∧ pd f 0 P + 4 ≤ (U.2.2.1 99 18).1 ∧ (U.2.2.1 99 18).1 ≤ 16777216) ∧
  (P ≤ 14 ∧ pd f 0 P ≤ 16384 ∧ sm f 0 P ≤ 16384) ∧ U.2.2.2.1 100 0 = some 99 ∧ U.2.2.2.1 99 0 = some m
/-- how many valuations of the last n of P places a mask tells apart -/
def wn (mk : Int32) (f : Nat → Nat) (P : Nat) : Nat → Nat
  | 0 => 1
  | n + 1 => wn mk f P n * (if mb mk (P - 1 - n) = 0 then 1 else f (P - 1 - n))
/-- the number of a valuation among these -/
def pj (mk : Int32) (f : Nat → Nat) (P : Nat) : Nat → Nat → Nat
  | 0, _ => 0
  | n + 1, s => pj mk f P n (s % pd f (P - n) n) + (if mb mk (P - 1 - n) = 0 then 0 else s / pd f (P - n) n * wn mk f P n)
/-- the same from the first place on -/
def pm (mk : Int32) (f : Nat → Nat) : Nat → Nat
  | 0 => 1
  | n + 1 => pm mk f n * (if mb mk n = 0 then 1 else f n)
section SpaceSmall
variable {H : mu_H} {m d P k s n st : Nat} {C : Nat → Nat} {U V : Ud} {f : Nat → Nat} {mk : Int32}
theorem pm_le (h : ∀ k, k < n → 1 ≤ f k) : 1 ≤ pm mk f n ∧ pm mk f n ≤ pd f 0 n := by
  induction n with
  | zero => exact ⟨Nat.le_refl _, Nat.le_refl _⟩
  | succ n ih =>
    obtain ⟨h1, h2⟩ := ih (fun k hk => h k (by omega))
    have h3 := h n (by omega)
    show 1 ≤ pm mk f n * (if mb mk n = 0 then 1 else f n) ∧ pm mk f n * (if mb mk n = 0 then 1 else f n) ≤ pd f 0 n * f (0 + n)
    rw [Nat.zero_add]
    by_cases e : mb mk n = 0
    · rw [if_pos e, Nat.mul_one]
      exact ⟨h1, Nat.le_trans h2 (Nat.le_mul_of_pos_right _ h3)⟩
    · rw [if_neg e]
      exact ⟨Nat.mul_le_mul h1 h3, Nat.mul_le_mul_right _ h2⟩
theorem pd_mono (h : ∀ k, k < n → 1 ≤ f k) {i : Nat} (hi : i ≤ n) : pd f 0 i ≤ pd f 0 n := by
  induction n with
  | zero => rw [Nat.le_zero.mp hi]; exact Nat.le_refl _
  | succ n ih =>
    by_cases e : i = n + 1
    · rw [e]; exact Nat.le_refl _
    · refine Nat.le_trans (ih (fun k hk => h k (by omega)) (by omega)) ?_
      show pd f 0 n ≤ pd f 0 n * f (0 + n)
      rw [Nat.zero_add]
      exact Nat.le_mul_of_pos_right _ (h n (by omega))
/-- the product of a tail is below that of all -/
theorem pd_split {a b : Nat} : ∀ n, pd f a (b + n) = pd f a b * pd f (a + b) n
  | 0 => (Nat.mul_one _).symm
  | n + 1 => by
    show pd f a (b + n) * f (a + (b + n)) = pd f a b * (pd f (a + b) n * f (a + b + n))
    rw [pd_split n, Nat.mul_assoc, Nat.add_assoc]
theorem pd_tail (h : ∀ k, k < P → 1 ≤ f k) (hk : k ≤ P) : 1 ≤ pd f k (P - k) ∧ pd f k (P - k) ≤ pd f 0 P := by
  have h1 : 1 ≤ pd f k (P - k) := pd_pos (fun q h1 h2 => h q (by omega))
  have h2 : 1 ≤ pd f 0 k := pd_pos (fun q _ h2 => h q (by omega))
  refine ⟨h1, ?_⟩
  have := pd_split (f := f) (a := 0) (b := k) (P - k)
  rw [show k + (P - k) = P by omega, Nat.zero_add] at this
  rw [this]
  exact Nat.le_mul_of_pos_left _ h2
theorem wn_le (h : ∀ k, k < P → 1 ≤ f k) (hn : n ≤ P) : 1 ≤ wn mk f P n ∧ wn mk f P n ≤ pd f (P - n) n := by
  induction n with
  | zero => exact ⟨Nat.le_refl _, Nat.le_refl _⟩
  | succ n ih =>
    obtain ⟨h1, h2⟩ := ih (by omega)
    have h3 := h (P - 1 - n) (by omega)
    have e1 : pd f (P - (n + 1)) (n + 1) = f (P - 1 - n) * pd f (P - n) n := by
      rw [pd_head, show P - (n + 1) = P - 1 - n by omega, show P - 1 - n + 1 = P - n by omega]
    rw [e1, Nat.mul_comm (f _)]
    show 1 ≤ wn mk f P n * _ ∧ wn mk f P n * _ ≤ _
    by_cases e : mb mk (P - 1 - n) = 0
    · rw [if_pos e, Nat.mul_one]
      exact ⟨h1, Nat.le_trans h2 (Nat.le_mul_of_pos_right _ h3)⟩
    · rw [if_neg e]
      exact ⟨Nat.mul_le_mul h1 h3, Nat.mul_le_mul_right _ h2⟩
theorem pj_lt (h : ∀ k, k < P → 1 ≤ f k) (hn : n ≤ P) : ∀ s, s < pd f (P - n) n → pj mk f P n s < wn mk f P n := by
  induction n with
  | zero => intro s _; exact Nat.zero_lt_one
  | succ n ih =>
    intro s hs
    have e1 : pd f (P - (n + 1)) (n + 1) = f (P - 1 - n) * pd f (P - n) n := by
      rw [pd_head, show P - (n + 1) = P - 1 - n by omega, show P - 1 - n + 1 = P - n by omega]
    rw [e1] at hs
    have hp : 0 < pd f (P - n) n := pd_pos (fun q h1 h2 => h q (by omega))
    have h1 := ih (by omega) (s % pd f (P - n) n) (Nat.mod_lt _ hp)
    show pj mk f P n (s % pd f (P - n) n) + (if mb mk (P - 1 - n) = 0 then 0 else s / pd f (P - n) n * wn mk f P n) < wn mk f P n * (if mb mk (P - 1 - n) = 0 then 1 else f (P - 1 - n))
    by_cases e : mb mk (P - 1 - n) = 0
    · rw [if_pos e, if_pos e]; omega
    · rw [if_neg e, if_neg e]
      have h2 : s / pd f (P - n) n < f (P - 1 - n) := (Nat.div_lt_iff_lt_mul hp).mpr hs
      have h3 := Nat.mul_le_mul_right (wn mk f P n) (show s / pd f (P - n) n + 1 ≤ f (P - 1 - n) from h2)
      rw [Nat.succ_mul, Nat.mul_comm (f _)] at h3
      omega
theorem upM_next0 {p : Nat} {g : Nat → Int64} : upL (upM V p 0 g k) p k (g k) = upM V p 0 g (k + 1) := by
  have := upM_succ (V := V) (p := p) (b := 0) (g := g) (k := k)
  rwa [Nat.zero_add] at this
/-- PathProver$Space.digit(II)I -/
abbrev mu_m264 : ev_M := (3, (some .int), [], ev_b264)
theorem mu_g264 : mu_good mu_m264 := mu_goodk ev_k264
theorem sp_digit (h : um m H) (e : ud m H = U) (hS : spx m U P f) (hk : k < P) (hs : s < 2147483648) : mu_TI (mu_D (d + 2)) 264 [.inr (.inr (some 99)), .inl (nI s), .inl (nI k)] H (fun x H1 => x = nI (s / max 1 (pd f (k + 1) (P - 1 - k)) % max 1 (f k)) ∧ H1 = H) := by
  obtain ⟨⟨s4, s10, s11, s12⟩, hk5, ⟨g8, g8b, g18, g18b⟩, ⟨gP, gpd, gsm⟩, hsp, hmo⟩ := hS
  have hf := fun k hk => Nat.le_trans (show 1 ≤ 2 by decide) (hk5 k hk).2.2.2
  have ht := (pd_tail hf (k := k + 1) (by omega)).2
  rw [show P - (k + 1) = P - 1 - k by omega] at ht
  have hfk : f k ≤ pd f 0 P := by
    have h1 := pd_mono hf (i := k + 1) (by omega)
    have h2 : 1 ≤ pd f 0 k := pd_pos (fun q _ h2 => hf q (by omega))
    have h3 : pd f 0 (k + 1) = pd f 0 k * f k := by show pd f 0 k * f (0 + k) = _; rw [Nat.zero_add]
    rw [h3] at h1
    exact Nat.le_trans (Nat.le_mul_of_pos_left _ h2) h1
  have hdv : s / max 1 (pd f (k + 1) (P - 1 - k)) ≤ s := Nat.div_le_self _ _
  refine mu_meth (M := mu_m264) rfl rfl ?_
  refine mw_ht (mu_fn_of (show [0, 1, 2].Nodup by decide)) ?_
  refine mw_go mu_g264 (k := 4) (f1 := (6, [(0, .inr (.inr (some 99))), (1, .inl (nI s)), (2, .inl (nI k))], [.inr (.inr (mu_r H 99 6)), .inl (1 : Int32), .inl (nI s)], H)) (C := [mu_is H (some 99) 13]) rfl (show mu_is H (some 99) 13 from (h.1.1.is rfl)) ?_
  rw [(h.1.1.r (p := 99) (j := 6) (q := 121) rfl)]
  refine mw_go mu_g264 (k := 2) (f1 := (8, [(0, .inr (.inr (some 99))), (1, .inl (nI s)), (2, .inl (nI k))], [.inl (mu_i H 121 (nI k).toNatClampNeg), .inl (1 : Int32), .inl (nI s)], H)) (C := [mu_isr H (some 121) 100, vp_in (nI k) (mu_n H 121)]) rfl (show (mu_isr H (some 121) 100) ∧ (vp_in (nI k) (mu_n H 121)) from ⟨((h.iA e rfl rfl ((ud_q (m := m) (P := 99) (j := 6) e rfl).symm.trans (h.1.1.r (p := 99) (j := 6) (q := 121) rfl)))).r, (by rw [show mu_n H 121 = 14 from (h.1.1.a (p := 121) (x := (100, 14)) rfl).2]; exact vp_in_nI (n := k) (by omega) (by decide))⟩) ?_
  rw [(show (mu_i H 121 (nI k).toNatClampNeg) = (nI (pd f (k + 1) (P - 1 - k))) from ((congrArg (mu_i H 121) (show (nI k).toNatClampNeg = k from nI_clamp (by omega))).trans (h.gA e rfl rfl ((ud_q (m := m) (P := 99) (j := 6) e rfl).symm.trans (h.1.1.r (p := 99) (j := 6) (q := 121) rfl)))).trans ((congrArg (fun z => z.2 k) (show U.2.2.1 99 6 = (U.2.2.1 99 6) from rfl)).trans (hk5 k (by omega)).2.2.1))]
  refine mw_cIe (fun _ => rfl) trivial (mu_max_ok (d := d) (1 : Int32) (nI (pd f (k + 1) (P - 1 - k)))) ?_
  rw [show (mu_max (1 : Int32) (nI (pd f (k + 1) (P - 1 - k)))) = nI (max 1 (pd f (k + 1) (P - 1 - k))) from mu_max_n (a := 1) (b := pd f (k + 1) (P - 1 - k)) (by omega) (by omega)]
  refine mw_go mu_g264 (k := 1) (f1 := (12, [(0, .inr (.inr (some 99))), (1, .inl (nI s)), (2, .inl (nI k))], [.inl ((nI s) / (nI (max 1 (pd f (k + 1) (P - 1 - k)))))], H)) (C := [¬ (nI (max 1 (pd f (k + 1) (P - 1 - k)))) = 0]) rfl (show ¬ (nI (max 1 (pd f (k + 1) (P - 1 - k)))) = 0 from (nI_ne0 (by omega) (by omega))) ?_
  rw [(show ((nI s) / (nI (max 1 (pd f (k + 1) (P - 1 - k))))) = (nI (s / (max 1 (pd f (k + 1) (P - 1 - k))))) from (nI_div (a := s) (b := max 1 (pd f (k + 1) (P - 1 - k))) (by omega) (by omega)))]
  refine mw_go mu_g264 (k := 3) (f1 := (17, [(0, .inr (.inr (some 99))), (1, .inl (nI s)), (2, .inl (nI k))], [.inr (.inr (mu_r H 99 5)), .inl (1 : Int32), .inl (nI (s / (max 1 (pd f (k + 1) (P - 1 - k)))))], H)) (C := [mu_is H (some 99) 13]) rfl (show mu_is H (some 99) 13 from (h.1.1.is rfl)) ?_
  rw [(h.1.1.r (p := 99) (j := 5) (q := 120) rfl)]
  refine mw_go mu_g264 (k := 2) (f1 := (19, [(0, .inr (.inr (some 99))), (1, .inl (nI s)), (2, .inl (nI k))], [.inl (mu_i H 120 (nI k).toNatClampNeg), .inl (1 : Int32), .inl (nI (s / (max 1 (pd f (k + 1) (P - 1 - k)))))], H)) (C := [mu_isr H (some 120) 100, vp_in (nI k) (mu_n H 120)]) rfl (show (mu_isr H (some 120) 100) ∧ (vp_in (nI k) (mu_n H 120)) from ⟨((h.iA e rfl rfl ((ud_q (m := m) (P := 99) (j := 5) e rfl).symm.trans (h.1.1.r (p := 99) (j := 5) (q := 120) rfl)))).r, (by rw [show mu_n H 120 = 14 from (h.1.1.a (p := 120) (x := (100, 14)) rfl).2]; exact vp_in_nI (n := k) (by omega) (by decide))⟩) ?_
  rw [(show (mu_i H 120 (nI k).toNatClampNeg) = (nI (f k)) from ((congrArg (mu_i H 120) (show (nI k).toNatClampNeg = k from nI_clamp (by omega))).trans (h.gA e rfl rfl ((ud_q (m := m) (P := 99) (j := 5) e rfl).symm.trans (h.1.1.r (p := 99) (j := 5) (q := 120) rfl)))).trans ((congrArg (fun z => z.2 k) (show U.2.2.1 99 5 = (U.2.2.1 99 5) from rfl)).trans (hk5 k (by omega)).1))]
  refine mw_cIe (fun _ => rfl) trivial (mu_max_ok (d := d) (1 : Int32) (nI (f k))) ?_
  rw [show (mu_max (1 : Int32) (nI (f k))) = nI (max 1 (f k)) from mu_max_n (a := 1) (b := f k) (by omega) (by omega)]
  refine mw_go mu_g264 (k := 1) (f1 := (23, [(0, .inr (.inr (some 99))), (1, .inl (nI s)), (2, .inl (nI k))], [.inl ((nI (s / (max 1 (pd f (k + 1) (P - 1 - k))))) - (nI (s / (max 1 (pd f (k + 1) (P - 1 - k))))) / (nI (max 1 (f k))) * (nI (max 1 (f k))))], H)) (C := [¬ (nI (max 1 (f k))) = 0]) rfl (show ¬ (nI (max 1 (f k))) = 0 from (nI_ne0 (by omega) (by omega))) ?_
  rw [(show ((nI (s / (max 1 (pd f (k + 1) (P - 1 - k))))) - (nI (s / (max 1 (pd f (k + 1) (P - 1 - k))))) / (nI (max 1 (f k))) * (nI (max 1 (f k)))) = (nI ((s / (max 1 (pd f (k + 1) (P - 1 - k)))) % (max 1 (f k)))) from (nI_mod (a := s / (max 1 (pd f (k + 1) (P - 1 - k)))) (b := max 1 (f k)) (by omega) (by omega)))]
  exact mw_of (fun _ => mu_ret rfl trivial ⟨(nI ((s / (max 1 (pd f (k + 1) (P - 1 - k)))) % (max 1 (f k)))), H, rfl, rfl, rfl⟩)
theorem inv_ne {a : Nat} (h1 : 1 ≤ a) (h2 : a < 2147483648) : ¬ (nI a).toInt64 = 0 := fun z => by
  have := congrArg Int64.toInt z
  rw [Int32.toInt_toInt64, nI_toInt h2] at this
  have h3 : (a : Int) = 0 := this
  omega
/-- PathProver$Space.inverse(I)J -/
abbrev mu_m262 : ev_M := (2, (some .long), [], ev_b262)
theorem mu_g262 : mu_good mu_m262 := mu_goodk ev_k262
theorem sp_inverse (hn : n < 2147483648) : mu_TL (mu_D (d + 2)) 262 [.inr (.inr (some 99)), .inl (nI n)] H (fun x H1 => x = ((268435456 : Int64) + (nI n).toInt64 - 1) / (nI (max 1 n)).toInt64 ∧ H1 = H) := by
  refine mu_meth (M := mu_m262) rfl rfl ?_
  refine mw_ht (mu_fn_of (show [0, 1].Nodup by decide)) ?_
  refine mw_go mu_g262 (k := 8) (f1 := (10, [(0, .inr (.inr (some 99))), (1, .inl (nI n))], [.inl (nI n), .inl (1 : Int32), .inr (.inl (((268435456 : Int64) + ((nI n).toInt64)) - (1 : Int64)))], H)) (C := []) rfl trivial ?_
  refine mw_cIe (fun _ => rfl) trivial (mu_max_ok (d := d) (1 : Int32) (nI n)) ?_
  rw [show (mu_max (1 : Int32) (nI n)) = nI (max 1 n) from mu_max_n (a := 1) (b := n) (by omega) (by omega)]
  refine mw_go mu_g262 (k := 2) (f1 := (15, [(0, .inr (.inr (some 99))), (1, .inl (nI n))], [.inr (.inl ((((268435456 : Int64) + ((nI n).toInt64)) - (1 : Int64)) / ((nI (max 1 n)).toInt64)))], H)) (C := [¬ ((nI (max 1 n)).toInt64) = 0]) rfl (show ¬ ((nI (max 1 n)).toInt64) = 0 from (inv_ne (by omega) (by omega))) ?_
  exact mw_of (fun _ => mu_ret rfl trivial ⟨((((268435456 : Int64) + ((nI n).toInt64)) - (1 : Int64)) / ((nI (max 1 n)).toInt64)), H, rfl, rfl, rfl⟩)
/-- PathProver$Space.sizeOver(I)I -/
abbrev mu_m266 : ev_M := (4, (some .int), [], ev_b266)
theorem mu_g266 : mu_good mu_m266 := mu_goodk ev_k266
theorem sp_over (h : um m H) (e : ud m H = U) (hS : spx m U P f) : mu_TI (mu_D (d + 1)) 266 [.inr (.inr (some 99)), .inl mk] H (fun x H1 => x = nI (pm mk f P) ∧ H1 = H) := by
  obtain ⟨⟨s4, s10, s11, s12⟩, hk5, ⟨g8, g8b, g18, g18b⟩, ⟨gP, gpd, gsm⟩, hsp, hmo⟩ := hS
  refine mu_meth (M := mu_m266) rfl rfl ?_
  refine mw_ht (mu_fn_of (show [0, 1].Nodup by decide)) ?_
  refine mw_go mu_g266 (k := 4) (f1 := (4, [(3, .inl (0 : Int32)), (2, .inl (1 : Int32)), (0, .inr (.inr (some 99))), (1, .inl mk)], [], H)) (C := []) rfl trivial ?_
  show mu_W _ _ (4, [(3, .inl (nI 0)), (2, .inl (nI (pm mk f 0))), (0, .inr (.inr (some 99))), (1, .inl mk)], [], H) _
  refine mw_sub (L' := [(3, .inl (nI 0)), (2, .inl (nI (pm mk f 0))), (0, .inr (.inr (some 99))), (1, .inl mk)]) (by simp) ?_
  refine mw_down (α := Nat) (fun zs => (4, [(3, .inl (nI zs)), (2, .inl (nI (pm mk f zs))), (0, .inr (.inr (some 99))), (1, .inl mk)], [], H)) (fun zs => P - zs) (fun zs => (zs ≤ P)) (fun zs hza iha => ?_) 0 (show 0 ≤ P from (by omega))
  obtain ⟨k, rfl⟩ : ∃ y, y = zs := ⟨zs, rfl⟩
  have hk := hza
  have hk : k ≤ P := hk
  show mu_W _ _ (4, [(3, .inl (nI k)), (2, .inl (nI (pm mk f k))), (0, .inr (.inr (some 99))), (1, .inl mk)], [], H) _
  refine mw_go mu_g266 (k := 3) (f1 := (9, [(3, .inl (nI k)), (2, .inl (nI (pm mk f k))), (0, .inr (.inr (some 99))), (1, .inl mk)], [.inl (mu_i H 99 4), .inl (nI k)], H)) (C := [mu_is H (some 99) 13]) rfl (show mu_is H (some 99) 13 from (h.1.1.is rfl)) ?_
  rw [(show mu_i H 99 4 = (nI P) from (ud_i (U := U) (m := m) (P := 99) (j := 4) e rfl).trans s4)]
  refine mw_if (P := (nI k) < (nI P)) (a := 12) (b := 39) (fun _ => rfl) trivial (fun h1 => ?_) (fun h1 => ?_)
  · -- 12: (nI k) < (nI P)
    have nh1 : k < P := (nI_ltI (by omega) (by omega)).mp (show nI k < nI P from h1)
    refine mw_go mu_g266 (k := 6) (f1 := (18, [(3, .inl (nI k)), (2, .inl (nI (pm mk f k))), (0, .inr (.inr (some 99))), (1, .inl mk)], [.inl (((mk.toUInt32 >>> ((nI k).toUInt32 &&& Int32.toUInt32 31)).toInt32) &&& (1 : Int32)), .inl (nI (pm mk f k))], H)) (C := []) rfl trivial ?_
    refine mw_if (P := (((mk.toUInt32 >>> ((nI k).toUInt32 &&& Int32.toUInt32 31)).toInt32) &&& (1 : Int32)) = 0) (a := 30) (b := 21) (fun _ => rfl) trivial (fun h2 => ?_) (fun h2 => ?_)
    · -- 30: (((mk.toUInt32 >>> ((nI k).toUInt32 &&& Int32.toUInt32 31)).toInt32) &&& (1 : Int32)) = 0
      refine mw_go mu_g266 (k := 2) (f1 := (32, [(3, .inl (nI k)), (2, .inl (nI (pm mk f k))), (0, .inr (.inr (some 99))), (1, .inl mk)], [.inl ((nI (pm mk f k)) * (1 : Int32))], H)) (C := []) rfl trivial ?_
      rw [(show ((nI (pm mk f k)) * (1 : Int32)) = (nI ((pm mk f k) * 1)) from (nI_mul (a := pm mk f k) (b := 1)))]
      refine mw_go mu_g266 (k := 2) (f1 := (36, [(3, .inl ((nI k) + 1)), (2, .inl (nI ((pm mk f k) * 1))), (0, .inr (.inr (some 99))), (1, .inl mk)], [], H)) (C := []) rfl trivial ?_
      rw [(show ((nI k) + 1) = (nI (k + 1)) from (nI_add k 1))]
      refine mw_go mu_g266 (k := 1) (f1 := (4, [(3, .inl (nI (k + 1))), (2, .inl (nI ((pm mk f k) * 1))), (0, .inr (.inr (some 99))), (1, .inl mk)], [], H)) (C := []) rfl trivial ?_
      rw [show (nI ((pm mk f k) * 1)) = nI (pm mk f (k + 1)) from congrArg nI (by show _ = pm mk f k * (if mb mk k = 0 then 1 else f k); rw [if_pos (show mb mk k = 0 from h2)])]
      exact mw_sub (by simp) (iha (k + 1) (show (k + 1) ≤ P from (by omega)) (by show P - (k + 1) < P - k; omega))
    · -- 21: not (((mk.toUInt32 >>> ((nI k).toUInt32 &&& Int32.toUInt32 31)).toInt32) &&& (1 : Int32)) = 0
      refine mw_go mu_g266 (k := 2) (f1 := (25, [(3, .inl (nI k)), (2, .inl (nI (pm mk f k))), (0, .inr (.inr (some 99))), (1, .inl mk)], [.inr (.inr (mu_r H 99 5)), .inl (nI (pm mk f k))], H)) (C := [mu_is H (some 99) 13]) rfl (show mu_is H (some 99) 13 from (h.1.1.is rfl)) ?_
      rw [(h.1.1.r (p := 99) (j := 5) (q := 120) rfl)]
      refine mw_go mu_g266 (k := 2) (f1 := (27, [(3, .inl (nI k)), (2, .inl (nI (pm mk f k))), (0, .inr (.inr (some 99))), (1, .inl mk)], [.inl (mu_i H 120 (nI k).toNatClampNeg), .inl (nI (pm mk f k))], H)) (C := [mu_isr H (some 120) 100, vp_in (nI k) (mu_n H 120)]) rfl (show (mu_isr H (some 120) 100) ∧ (vp_in (nI k) (mu_n H 120)) from ⟨((h.iA e rfl rfl ((ud_q (m := m) (P := 99) (j := 5) e rfl).symm.trans (h.1.1.r (p := 99) (j := 5) (q := 120) rfl)))).r, (by rw [show mu_n H 120 = 14 from (h.1.1.a (p := 120) (x := (100, 14)) rfl).2]; exact vp_in_nI (n := k) (by omega) (by decide))⟩) ?_
      rw [(show (mu_i H 120 (nI k).toNatClampNeg) = (nI (f k)) from ((congrArg (mu_i H 120) (show (nI k).toNatClampNeg = k from nI_clamp (by omega))).trans (h.gA e rfl rfl ((ud_q (m := m) (P := 99) (j := 5) e rfl).symm.trans (h.1.1.r (p := 99) (j := 5) (q := 120) rfl)))).trans ((congrArg (fun z => z.2 k) (show U.2.2.1 99 5 = (U.2.2.1 99 5) from rfl)).trans (hk5 k (by omega)).1))]
      refine mw_go mu_g266 (k := 2) (f1 := (32, [(3, .inl (nI k)), (2, .inl (nI (pm mk f k))), (0, .inr (.inr (some 99))), (1, .inl mk)], [.inl ((nI (pm mk f k)) * (nI (f k)))], H)) (C := []) rfl trivial ?_
      rw [(show ((nI (pm mk f k)) * (nI (f k))) = (nI ((pm mk f k) * (f k))) from (nI_mul (a := pm mk f k) (b := f k)))]
      refine mw_go mu_g266 (k := 2) (f1 := (36, [(3, .inl ((nI k) + 1)), (2, .inl (nI ((pm mk f k) * (f k)))), (0, .inr (.inr (some 99))), (1, .inl mk)], [], H)) (C := []) rfl trivial ?_
      rw [(show ((nI k) + 1) = (nI (k + 1)) from (nI_add k 1))]
      refine mw_go mu_g266 (k := 1) (f1 := (4, [(3, .inl (nI (k + 1))), (2, .inl (nI ((pm mk f k) * (f k)))), (0, .inr (.inr (some 99))), (1, .inl mk)], [], H)) (C := []) rfl trivial ?_
      rw [show (nI ((pm mk f k) * (f k))) = nI (pm mk f (k + 1)) from congrArg nI (by show _ = pm mk f k * (if mb mk k = 0 then 1 else f k); rw [if_neg (show ¬ mb mk k = 0 from h2)])]
      exact mw_sub (by simp) (iha (k + 1) (show (k + 1) ≤ P from (by omega)) (by show P - (k + 1) < P - k; omega))
  · -- 39: not (nI k) < (nI P)
    have nh1 : ¬ k < P := fun z => h1 (show nI k < nI P from (nI_ltI (by omega) (by omega)).mpr z)
    refine mw_go mu_g266 (k := 1) (f1 := (40, [(3, .inl (nI k)), (2, .inl (nI (pm mk f k))), (0, .inr (.inr (some 99))), (1, .inl mk)], [.inl (nI (pm mk f k))], H)) (C := []) rfl trivial ?_
    exact mw_of (fun _ => mu_ret rfl trivial ⟨(nI (pm mk f k)), H, rfl, (by rw [show k = P by omega]), rfl⟩)
/-- PathProver$Space.keepCommon([J[J)V -/
abbrev mu_m258 : ev_M := (4, none, [], ev_b258)
theorem mu_g258 : mu_good mu_m258 := mu_goodk ev_k258
theorem sp_common_124_126 (h : um m H) (e : ud m H = U) (hS : spx m U P f) : mu_TV (mu_D (d + 1)) 258 [.inr (.inr (some 99)), .inr (.inr (some 124)), .inr (.inr (some 126))] H (fun H1 => um m H1 ∧ ur m C H H1 ∧ ud m H1 = upM U 124 0 (fun i => (U.2.2.2.2.1 124 i &&& U.2.2.2.2.1 126 i)) ((pd f 0 P + 63) / 64)) := by
  obtain ⟨⟨s4, s10, s11, s12⟩, hk5, ⟨g8, g8b, g18, g18b⟩, ⟨gP, gpd, gsm⟩, hsp, hmo⟩ := hS
  refine mu_meth (M := mu_m258) rfl rfl ?_
  refine mw_ht (mu_fn_of (show [0, 1, 2].Nodup by decide)) ?_
  refine mw_go mu_g258 (k := 2) (f1 := (2, [(3, .inl (0 : Int32)), (0, .inr (.inr (some 99))), (1, .inr (.inr (some 124))), (2, .inr (.inr (some 126)))], [], H)) (C := []) rfl trivial ?_
  show mu_W _ _ (2, [(3, .inl (nI 0)), (0, .inr (.inr (some 99))), (1, .inr (.inr (some 124))), (2, .inr (.inr (some 126)))], [], H) _
  refine mw_sub (L' := [(3, .inl (nI 0)), (0, .inr (.inr (some 99))), (1, .inr (.inr (some 124))), (2, .inr (.inr (some 126)))]) (by simp) ?_
  refine mw_down (α := Nat × mu_H) (fun zs => (2, [(3, .inl (nI zs.1)), (0, .inr (.inr (some 99))), (1, .inr (.inr (some 124))), (2, .inr (.inr (some 126)))], [], zs.2)) (fun zs => (pd f 0 P + 63) / 64 - zs.1) (fun zs => um m zs.2 ∧ ur m C H zs.2 ∧ (ud m zs.2 = (upM U 124 0 (fun i => (U.2.2.2.2.1 124 i &&& U.2.2.2.2.1 126 i)) zs.1)) ∧ (zs.1 ≤ (pd f 0 P + 63) / 64)) (fun zs hza iha => ?_) (0, H) ⟨h, (ur.refl m C H), (show ud m H = (upM U 124 0 (fun i => (U.2.2.2.2.1 124 i &&& U.2.2.2.2.1 126 i)) 0) from (by rw [e]; exact upM_zero.symm)), (show 0 ≤ (pd f 0 P + 63) / 64 from (by omega))⟩
  obtain ⟨k, Hsa⟩ := zs
  obtain ⟨ua, hta, da, hk⟩ := hza
  have ua : um m Hsa := ua
  have hta : ur m C H Hsa := hta
  have da : ud m Hsa = (upM U 124 0 (fun i => (U.2.2.2.2.1 124 i &&& U.2.2.2.2.1 126 i)) k) := da
  have hk : k ≤ (pd f 0 P + 63) / 64 := hk
  show mu_W _ _ (2, [(3, .inl (nI k)), (0, .inr (.inr (some 99))), (1, .inr (.inr (some 124))), (2, .inr (.inr (some 126)))], [], Hsa) _
  refine mw_go mu_g258 (k := 3) (f1 := (7, [(3, .inl (nI k)), (0, .inr (.inr (some 99))), (1, .inr (.inr (some 124))), (2, .inr (.inr (some 126)))], [.inl (mu_i Hsa 99 12), .inl (nI k)], Hsa)) (C := [mu_is Hsa (some 99) 13]) rfl (show mu_is Hsa (some 99) 13 from (ua.1.1.is rfl)) ?_
  rw [(show mu_i Hsa 99 12 = (nI ((pd f 0 P + 63) / 64)) from (ud_i (U := (upM U 124 0 (fun i => (U.2.2.2.2.1 124 i &&& U.2.2.2.2.1 126 i)) k)) (m := m) (P := 99) (j := 12) da rfl).trans s12)]
  refine mw_if (P := (nI k) < (nI ((pd f 0 P + 63) / 64))) (a := 10) (b := 25) (fun _ => rfl) trivial (fun h1 => ?_) (fun h1 => ?_)
  · -- 10: (nI k) < (nI ((pd f 0 P + 63) / 64))
    have nh1 : k < ((pd f 0 P + 63) / 64) := (nI_ltI (by omega) (by omega)).mp (show nI k < nI ((pd f 0 P + 63) / 64) from h1)
    refine mw_go mu_g258 (k := 4) (f1 := (14, [(3, .inl (nI k)), (0, .inr (.inr (some 99))), (1, .inr (.inr (some 124))), (2, .inr (.inr (some 126)))], [.inr (.inl (mu_l Hsa 124 (nI k).toNatClampNeg)), .inl (nI k), .inr (.inr (some 124))], Hsa)) (C := [mu_isr Hsa (some 124) 102, vp_in (nI k) (mu_n Hsa 124)]) rfl (show (mu_isr Hsa (some 124) 102) ∧ (vp_in (nI k) (mu_n Hsa 124)) from ⟨((ua.1.1.a (p := 124) (x := (102, 256)) rfl).1).r, (by rw [show mu_n Hsa 124 = 256 from (ua.1.1.a (p := 124) (x := (102, 256)) rfl).2]; exact vp_in_nI (n := k) (by omega) (by decide))⟩) ?_
    rw [(show (mu_l Hsa 124 (nI k).toNatClampNeg) = (U.2.2.2.2.1 124 k) from (congrArg (mu_l Hsa 124) (show (nI k).toNatClampNeg = k from nI_clamp (by omega))).trans ((ud_l (m := m) (p := 124) (i := k) da rfl).trans (show (upM U 124 0 (fun i => (U.2.2.2.2.1 124 i &&& U.2.2.2.2.1 126 i)) k).2.2.2.2.1 124 k = (U.2.2.2.2.1 124 k) from (if_neg (fun z => by omega)))))]
    refine mw_go mu_g258 (k := 3) (f1 := (17, [(3, .inl (nI k)), (0, .inr (.inr (some 99))), (1, .inr (.inr (some 124))), (2, .inr (.inr (some 126)))], [.inr (.inl (mu_l Hsa 126 (nI k).toNatClampNeg)), .inr (.inl (U.2.2.2.2.1 124 k)), .inl (nI k), .inr (.inr (some 124))], Hsa)) (C := [mu_isr Hsa (some 126) 102, vp_in (nI k) (mu_n Hsa 126)]) rfl (show (mu_isr Hsa (some 126) 102) ∧ (vp_in (nI k) (mu_n Hsa 126)) from ⟨((ua.1.1.a (p := 126) (x := (102, 256)) rfl).1).r, (by rw [show mu_n Hsa 126 = 256 from (ua.1.1.a (p := 126) (x := (102, 256)) rfl).2]; exact vp_in_nI (n := k) (by omega) (by decide))⟩) ?_
    rw [(show (mu_l Hsa 126 (nI k).toNatClampNeg) = (U.2.2.2.2.1 126) k from (congrArg (mu_l Hsa 126) (show (nI k).toNatClampNeg = k from nI_clamp (by omega))).trans ((ud_l (m := m) (p := 126) (i := k) da rfl).trans (congrFun (show (upM U 124 0 (fun i => (U.2.2.2.2.1 124 i &&& U.2.2.2.2.1 126 i)) k).2.2.2.2.1 126 = (U.2.2.2.2.1 126) from rfl) k)))]
    refine mw_go mu_g258 (k := 2) (f1 := (19, [(3, .inl (nI k)), (0, .inr (.inr (some 99))), (1, .inr (.inr (some 124))), (2, .inr (.inr (some 126)))], [], (mu_sl Hsa 124 (nI k).toNatClampNeg ((U.2.2.2.2.1 124 k) &&& ((U.2.2.2.2.1 126) k))))) (C := [mu_is Hsa (some 124) 102, vp_in (nI k) (mu_n Hsa 124)]) rfl (show (mu_is Hsa (some 124) 102) ∧ (vp_in (nI k) (mu_n Hsa 124)) from ⟨((ua.1.1.a (p := 124) (x := (102, 256)) rfl).1), (by rw [show mu_n Hsa 124 = 256 from (ua.1.1.a (p := 124) (x := (102, 256)) rfl).2]; exact vp_in_nI (n := k) (by omega) (by decide))⟩) ?_
    rw [(show (nI k).toNatClampNeg = k from nI_clamp (by omega))]
    obtain ⟨u2, r2, d2⟩ : um m (mu_sl Hsa 124 k ((U.2.2.2.2.1 124 k) &&& ((U.2.2.2.2.1 126) k))) ∧ ur m C Hsa (mu_sl Hsa 124 k ((U.2.2.2.2.1 124 k) &&& ((U.2.2.2.2.1 126) k))) ∧ ud m (mu_sl Hsa 124 k ((U.2.2.2.2.1 124 k) &&& ((U.2.2.2.2.1 126) k))) = (upL (upM U 124 0 (fun i => (U.2.2.2.2.1 124 i &&& U.2.2.2.2.1 126 i)) k) 124 k ((U.2.2.2.2.1 124 k) &&& ((U.2.2.2.2.1 126) k))) := ua.sL (C := C) da rfl
    generalize (mu_sl Hsa 124 k ((U.2.2.2.2.1 124 k) &&& ((U.2.2.2.2.1 126) k))) = Q2 at u2 r2 d2 ⊢
    have ht2 : ur m C H Q2 := hta.trans r2
    refine mw_go mu_g258 (k := 1) (f1 := (22, [(3, .inl ((nI k) + 1)), (0, .inr (.inr (some 99))), (1, .inr (.inr (some 124))), (2, .inr (.inr (some 126)))], [], Q2)) (C := []) rfl trivial ?_
    rw [(show ((nI k) + 1) = (nI (k + 1)) from (nI_add k 1))]
    refine mw_go mu_g258 (k := 1) (f1 := (2, [(3, .inl (nI (k + 1))), (0, .inr (.inr (some 99))), (1, .inr (.inr (some 124))), (2, .inr (.inr (some 126)))], [], Q2)) (C := []) rfl trivial ?_
    exact mw_sub (by simp) (iha (k + 1, Q2) ⟨u2, ht2, (show ud m Q2 = (upM U 124 0 (fun i => (U.2.2.2.2.1 124 i &&& U.2.2.2.2.1 126 i)) (k + 1)) from (by rw [d2]; exact upM_next0)), (show (k + 1) ≤ (pd f 0 P + 63) / 64 from (by omega))⟩ (by show (pd f 0 P + 63) / 64 - (k + 1) < (pd f 0 P + 63) / 64 - k; omega))
  · -- 25: not (nI k) < (nI ((pd f 0 P + 63) / 64))
    have nh1 : ¬ k < ((pd f 0 P + 63) / 64) := fun z => h1 (show nI k < nI ((pd f 0 P + 63) / 64) from (nI_ltI (by omega) (by omega)).mpr z)
    exact mw_of (fun _ => mu_ret rfl trivial ⟨Hsa, rfl, ua, hta, (by rw [da, show k = (pd f 0 P + 63) / 64 by omega])⟩)
theorem sp_common_125_126 (h : um m H) (e : ud m H = U) (hS : spx m U P f) : mu_TV (mu_D (d + 1)) 258 [.inr (.inr (some 99)), .inr (.inr (some 125)), .inr (.inr (some 126))] H (fun H1 => um m H1 ∧ ur m C H H1 ∧ ud m H1 = upM U 125 0 (fun i => (U.2.2.2.2.1 125 i &&& U.2.2.2.2.1 126 i)) ((pd f 0 P + 63) / 64)) := by
  obtain ⟨⟨s4, s10, s11, s12⟩, hk5, ⟨g8, g8b, g18, g18b⟩, ⟨gP, gpd, gsm⟩, hsp, hmo⟩ := hS
  refine mu_meth (M := mu_m258) rfl rfl ?_
  refine mw_ht (mu_fn_of (show [0, 1, 2].Nodup by decide)) ?_
  refine mw_go mu_g258 (k := 2) (f1 := (2, [(3, .inl (0 : Int32)), (0, .inr (.inr (some 99))), (1, .inr (.inr (some 125))), (2, .inr (.inr (some 126)))], [], H)) (C := []) rfl trivial ?_
  show mu_W _ _ (2, [(3, .inl (nI 0)), (0, .inr (.inr (some 99))), (1, .inr (.inr (some 125))), (2, .inr (.inr (some 126)))], [], H) _
  refine mw_sub (L' := [(3, .inl (nI 0)), (0, .inr (.inr (some 99))), (1, .inr (.inr (some 125))), (2, .inr (.inr (some 126)))]) (by simp) ?_
  refine mw_down (α := Nat × mu_H) (fun zs => (2, [(3, .inl (nI zs.1)), (0, .inr (.inr (some 99))), (1, .inr (.inr (some 125))), (2, .inr (.inr (some 126)))], [], zs.2)) (fun zs => (pd f 0 P + 63) / 64 - zs.1) (fun zs => um m zs.2 ∧ ur m C H zs.2 ∧ (ud m zs.2 = (upM U 125 0 (fun i => (U.2.2.2.2.1 125 i &&& U.2.2.2.2.1 126 i)) zs.1)) ∧ (zs.1 ≤ (pd f 0 P + 63) / 64)) (fun zs hza iha => ?_) (0, H) ⟨h, (ur.refl m C H), (show ud m H = (upM U 125 0 (fun i => (U.2.2.2.2.1 125 i &&& U.2.2.2.2.1 126 i)) 0) from (by rw [e]; exact upM_zero.symm)), (show 0 ≤ (pd f 0 P + 63) / 64 from (by omega))⟩
  obtain ⟨k, Hsa⟩ := zs
  obtain ⟨ua, hta, da, hk⟩ := hza
  have ua : um m Hsa := ua
  have hta : ur m C H Hsa := hta
  have da : ud m Hsa = (upM U 125 0 (fun i => (U.2.2.2.2.1 125 i &&& U.2.2.2.2.1 126 i)) k) := da
  have hk : k ≤ (pd f 0 P + 63) / 64 := hk
  show mu_W _ _ (2, [(3, .inl (nI k)), (0, .inr (.inr (some 99))), (1, .inr (.inr (some 125))), (2, .inr (.inr (some 126)))], [], Hsa) _
  refine mw_go mu_g258 (k := 3) (f1 := (7, [(3, .inl (nI k)), (0, .inr (.inr (some 99))), (1, .inr (.inr (some 125))), (2, .inr (.inr (some 126)))], [.inl (mu_i Hsa 99 12), .inl (nI k)], Hsa)) (C := [mu_is Hsa (some 99) 13]) rfl (show mu_is Hsa (some 99) 13 from (ua.1.1.is rfl)) ?_
  rw [(show mu_i Hsa 99 12 = (nI ((pd f 0 P + 63) / 64)) from (ud_i (U := (upM U 125 0 (fun i => (U.2.2.2.2.1 125 i &&& U.2.2.2.2.1 126 i)) k)) (m := m) (P := 99) (j := 12) da rfl).trans s12)]
  refine mw_if (P := (nI k) < (nI ((pd f 0 P + 63) / 64))) (a := 10) (b := 25) (fun _ => rfl) trivial (fun h1 => ?_) (fun h1 => ?_)
  · -- 10: (nI k) < (nI ((pd f 0 P + 63) / 64))
    have nh1 : k < ((pd f 0 P + 63) / 64) := (nI_ltI (by omega) (by omega)).mp (show nI k < nI ((pd f 0 P + 63) / 64) from h1)
    refine mw_go mu_g258 (k := 4) (f1 := (14, [(3, .inl (nI k)), (0, .inr (.inr (some 99))), (1, .inr (.inr (some 125))), (2, .inr (.inr (some 126)))], [.inr (.inl (mu_l Hsa 125 (nI k).toNatClampNeg)), .inl (nI k), .inr (.inr (some 125))], Hsa)) (C := [mu_isr Hsa (some 125) 102, vp_in (nI k) (mu_n Hsa 125)]) rfl (show (mu_isr Hsa (some 125) 102) ∧ (vp_in (nI k) (mu_n Hsa 125)) from ⟨((ua.1.1.a (p := 125) (x := (102, 256)) rfl).1).r, (by rw [show mu_n Hsa 125 = 256 from (ua.1.1.a (p := 125) (x := (102, 256)) rfl).2]; exact vp_in_nI (n := k) (by omega) (by decide))⟩) ?_
    rw [(show (mu_l Hsa 125 (nI k).toNatClampNeg) = (U.2.2.2.2.1 125 k) from (congrArg (mu_l Hsa 125) (show (nI k).toNatClampNeg = k from nI_clamp (by omega))).trans ((ud_l (m := m) (p := 125) (i := k) da rfl).trans (show (upM U 125 0 (fun i => (U.2.2.2.2.1 125 i &&& U.2.2.2.2.1 126 i)) k).2.2.2.2.1 125 k = (U.2.2.2.2.1 125 k) from (if_neg (fun z => by omega)))))]
    refine mw_go mu_g258 (k := 3) (f1 := (17, [(3, .inl (nI k)), (0, .inr (.inr (some 99))), (1, .inr (.inr (some 125))), (2, .inr (.inr (some 126)))], [.inr (.inl (mu_l Hsa 126 (nI k).toNatClampNeg)), .inr (.inl (U.2.2.2.2.1 125 k)), .inl (nI k), .inr (.inr (some 125))], Hsa)) (C := [mu_isr Hsa (some 126) 102, vp_in (nI k) (mu_n Hsa 126)]) rfl (show (mu_isr Hsa (some 126) 102) ∧ (vp_in (nI k) (mu_n Hsa 126)) from ⟨((ua.1.1.a (p := 126) (x := (102, 256)) rfl).1).r, (by rw [show mu_n Hsa 126 = 256 from (ua.1.1.a (p := 126) (x := (102, 256)) rfl).2]; exact vp_in_nI (n := k) (by omega) (by decide))⟩) ?_
    rw [(show (mu_l Hsa 126 (nI k).toNatClampNeg) = (U.2.2.2.2.1 126) k from (congrArg (mu_l Hsa 126) (show (nI k).toNatClampNeg = k from nI_clamp (by omega))).trans ((ud_l (m := m) (p := 126) (i := k) da rfl).trans (congrFun (show (upM U 125 0 (fun i => (U.2.2.2.2.1 125 i &&& U.2.2.2.2.1 126 i)) k).2.2.2.2.1 126 = (U.2.2.2.2.1 126) from rfl) k)))]
    refine mw_go mu_g258 (k := 2) (f1 := (19, [(3, .inl (nI k)), (0, .inr (.inr (some 99))), (1, .inr (.inr (some 125))), (2, .inr (.inr (some 126)))], [], (mu_sl Hsa 125 (nI k).toNatClampNeg ((U.2.2.2.2.1 125 k) &&& ((U.2.2.2.2.1 126) k))))) (C := [mu_is Hsa (some 125) 102, vp_in (nI k) (mu_n Hsa 125)]) rfl (show (mu_is Hsa (some 125) 102) ∧ (vp_in (nI k) (mu_n Hsa 125)) from ⟨((ua.1.1.a (p := 125) (x := (102, 256)) rfl).1), (by rw [show mu_n Hsa 125 = 256 from (ua.1.1.a (p := 125) (x := (102, 256)) rfl).2]; exact vp_in_nI (n := k) (by omega) (by decide))⟩) ?_
    rw [(show (nI k).toNatClampNeg = k from nI_clamp (by omega))]
    obtain ⟨u2, r2, d2⟩ : um m (mu_sl Hsa 125 k ((U.2.2.2.2.1 125 k) &&& ((U.2.2.2.2.1 126) k))) ∧ ur m C Hsa (mu_sl Hsa 125 k ((U.2.2.2.2.1 125 k) &&& ((U.2.2.2.2.1 126) k))) ∧ ud m (mu_sl Hsa 125 k ((U.2.2.2.2.1 125 k) &&& ((U.2.2.2.2.1 126) k))) = (upL (upM U 125 0 (fun i => (U.2.2.2.2.1 125 i &&& U.2.2.2.2.1 126 i)) k) 125 k ((U.2.2.2.2.1 125 k) &&& ((U.2.2.2.2.1 126) k))) := ua.sL (C := C) da rfl
    generalize (mu_sl Hsa 125 k ((U.2.2.2.2.1 125 k) &&& ((U.2.2.2.2.1 126) k))) = Q2 at u2 r2 d2 ⊢
    have ht2 : ur m C H Q2 := hta.trans r2
    refine mw_go mu_g258 (k := 1) (f1 := (22, [(3, .inl ((nI k) + 1)), (0, .inr (.inr (some 99))), (1, .inr (.inr (some 125))), (2, .inr (.inr (some 126)))], [], Q2)) (C := []) rfl trivial ?_
    rw [(show ((nI k) + 1) = (nI (k + 1)) from (nI_add k 1))]
    refine mw_go mu_g258 (k := 1) (f1 := (2, [(3, .inl (nI (k + 1))), (0, .inr (.inr (some 99))), (1, .inr (.inr (some 125))), (2, .inr (.inr (some 126)))], [], Q2)) (C := []) rfl trivial ?_
    exact mw_sub (by simp) (iha (k + 1, Q2) ⟨u2, ht2, (show ud m Q2 = (upM U 125 0 (fun i => (U.2.2.2.2.1 125 i &&& U.2.2.2.2.1 126 i)) (k + 1)) from (by rw [d2]; exact upM_next0)), (show (k + 1) ≤ (pd f 0 P + 63) / 64 from (by omega))⟩ (by show (pd f 0 P + 63) / 64 - (k + 1) < (pd f 0 P + 63) / 64 - k; omega))
  · -- 25: not (nI k) < (nI ((pd f 0 P + 63) / 64))
    have nh1 : ¬ k < ((pd f 0 P + 63) / 64) := fun z => h1 (show nI k < nI ((pd f 0 P + 63) / 64) from (nI_ltI (by omega) (by omega)).mpr z)
    exact mw_of (fun _ => mu_ret rfl trivial ⟨Hsa, rfl, ua, hta, (by rw [da, show k = (pd f 0 P + 63) / 64 by omega])⟩)
theorem sp_common_125_124 (h : um m H) (e : ud m H = U) (hS : spx m U P f) : mu_TV (mu_D (d + 1)) 258 [.inr (.inr (some 99)), .inr (.inr (some 125)), .inr (.inr (some 124))] H (fun H1 => um m H1 ∧ ur m C H H1 ∧ ud m H1 = upM U 125 0 (fun i => (U.2.2.2.2.1 125 i &&& U.2.2.2.2.1 124 i)) ((pd f 0 P + 63) / 64)) := by
  obtain ⟨⟨s4, s10, s11, s12⟩, hk5, ⟨g8, g8b, g18, g18b⟩, ⟨gP, gpd, gsm⟩, hsp, hmo⟩ := hS
  refine mu_meth (M := mu_m258) rfl rfl ?_
  refine mw_ht (mu_fn_of (show [0, 1, 2].Nodup by decide)) ?_
  refine mw_go mu_g258 (k := 2) (f1 := (2, [(3, .inl (0 : Int32)), (0, .inr (.inr (some 99))), (1, .inr (.inr (some 125))), (2, .inr (.inr (some 124)))], [], H)) (C := []) rfl trivial ?_
  show mu_W _ _ (2, [(3, .inl (nI 0)), (0, .inr (.inr (some 99))), (1, .inr (.inr (some 125))), (2, .inr (.inr (some 124)))], [], H) _
  refine mw_sub (L' := [(3, .inl (nI 0)), (0, .inr (.inr (some 99))), (1, .inr (.inr (some 125))), (2, .inr (.inr (some 124)))]) (by simp) ?_
  refine mw_down (α := Nat × mu_H) (fun zs => (2, [(3, .inl (nI zs.1)), (0, .inr (.inr (some 99))), (1, .inr (.inr (some 125))), (2, .inr (.inr (some 124)))], [], zs.2)) (fun zs => (pd f 0 P + 63) / 64 - zs.1) (fun zs => um m zs.2 ∧ ur m C H zs.2 ∧ (ud m zs.2 = (upM U 125 0 (fun i => (U.2.2.2.2.1 125 i &&& U.2.2.2.2.1 124 i)) zs.1)) ∧ (zs.1 ≤ (pd f 0 P + 63) / 64)) (fun zs hza iha => ?_) (0, H) ⟨h, (ur.refl m C H), (show ud m H = (upM U 125 0 (fun i => (U.2.2.2.2.1 125 i &&& U.2.2.2.2.1 124 i)) 0) from (by rw [e]; exact upM_zero.symm)), (show 0 ≤ (pd f 0 P + 63) / 64 from (by omega))⟩
  obtain ⟨k, Hsa⟩ := zs
  obtain ⟨ua, hta, da, hk⟩ := hza
  have ua : um m Hsa := ua
  have hta : ur m C H Hsa := hta
  have da : ud m Hsa = (upM U 125 0 (fun i => (U.2.2.2.2.1 125 i &&& U.2.2.2.2.1 124 i)) k) := da
  have hk : k ≤ (pd f 0 P + 63) / 64 := hk
  show mu_W _ _ (2, [(3, .inl (nI k)), (0, .inr (.inr (some 99))), (1, .inr (.inr (some 125))), (2, .inr (.inr (some 124)))], [], Hsa) _
  refine mw_go mu_g258 (k := 3) (f1 := (7, [(3, .inl (nI k)), (0, .inr (.inr (some 99))), (1, .inr (.inr (some 125))), (2, .inr (.inr (some 124)))], [.inl (mu_i Hsa 99 12), .inl (nI k)], Hsa)) (C := [mu_is Hsa (some 99) 13]) rfl (show mu_is Hsa (some 99) 13 from (ua.1.1.is rfl)) ?_
  rw [(show mu_i Hsa 99 12 = (nI ((pd f 0 P + 63) / 64)) from (ud_i (U := (upM U 125 0 (fun i => (U.2.2.2.2.1 125 i &&& U.2.2.2.2.1 124 i)) k)) (m := m) (P := 99) (j := 12) da rfl).trans s12)]
  refine mw_if (P := (nI k) < (nI ((pd f 0 P + 63) / 64))) (a := 10) (b := 25) (fun _ => rfl) trivial (fun h1 => ?_) (fun h1 => ?_)
  · -- 10: (nI k) < (nI ((pd f 0 P + 63) / 64))
    have nh1 : k < ((pd f 0 P + 63) / 64) := (nI_ltI (by omega) (by omega)).mp (show nI k < nI ((pd f 0 P + 63) / 64) from h1)
    refine mw_go mu_g258 (k := 4) (f1 := (14, [(3, .inl (nI k)), (0, .inr (.inr (some 99))), (1, .inr (.inr (some 125))), (2, .inr (.inr (some 124)))], [.inr (.inl (mu_l Hsa 125 (nI k).toNatClampNeg)), .inl (nI k), .inr (.inr (some 125))], Hsa)) (C := [mu_isr Hsa (some 125) 102, vp_in (nI k) (mu_n Hsa 125)]) rfl (show (mu_isr Hsa (some 125) 102) ∧ (vp_in (nI k) (mu_n Hsa 125)) from ⟨((ua.1.1.a (p := 125) (x := (102, 256)) rfl).1).r, (by rw [show mu_n Hsa 125 = 256 from (ua.1.1.a (p := 125) (x := (102, 256)) rfl).2]; exact vp_in_nI (n := k) (by omega) (by decide))⟩) ?_
    rw [(show (mu_l Hsa 125 (nI k).toNatClampNeg) = (U.2.2.2.2.1 125 k) from (congrArg (mu_l Hsa 125) (show (nI k).toNatClampNeg = k from nI_clamp (by omega))).trans ((ud_l (m := m) (p := 125) (i := k) da rfl).trans (show (upM U 125 0 (fun i => (U.2.2.2.2.1 125 i &&& U.2.2.2.2.1 124 i)) k).2.2.2.2.1 125 k = (U.2.2.2.2.1 125 k) from (if_neg (fun z => by omega)))))]
    refine mw_go mu_g258 (k := 3) (f1 := (17, [(3, .inl (nI k)), (0, .inr (.inr (some 99))), (1, .inr (.inr (some 125))), (2, .inr (.inr (some 124)))], [.inr (.inl (mu_l Hsa 124 (nI k).toNatClampNeg)), .inr (.inl (U.2.2.2.2.1 125 k)), .inl (nI k), .inr (.inr (some 125))], Hsa)) (C := [mu_isr Hsa (some 124) 102, vp_in (nI k) (mu_n Hsa 124)]) rfl (show (mu_isr Hsa (some 124) 102) ∧ (vp_in (nI k) (mu_n Hsa 124)) from ⟨((ua.1.1.a (p := 124) (x := (102, 256)) rfl).1).r, (by rw [show mu_n Hsa 124 = 256 from (ua.1.1.a (p := 124) (x := (102, 256)) rfl).2]; exact vp_in_nI (n := k) (by omega) (by decide))⟩) ?_
    rw [(show (mu_l Hsa 124 (nI k).toNatClampNeg) = (U.2.2.2.2.1 124) k from (congrArg (mu_l Hsa 124) (show (nI k).toNatClampNeg = k from nI_clamp (by omega))).trans ((ud_l (m := m) (p := 124) (i := k) da rfl).trans (congrFun (show (upM U 125 0 (fun i => (U.2.2.2.2.1 125 i &&& U.2.2.2.2.1 124 i)) k).2.2.2.2.1 124 = (U.2.2.2.2.1 124) from rfl) k)))]
    refine mw_go mu_g258 (k := 2) (f1 := (19, [(3, .inl (nI k)), (0, .inr (.inr (some 99))), (1, .inr (.inr (some 125))), (2, .inr (.inr (some 124)))], [], (mu_sl Hsa 125 (nI k).toNatClampNeg ((U.2.2.2.2.1 125 k) &&& ((U.2.2.2.2.1 124) k))))) (C := [mu_is Hsa (some 125) 102, vp_in (nI k) (mu_n Hsa 125)]) rfl (show (mu_is Hsa (some 125) 102) ∧ (vp_in (nI k) (mu_n Hsa 125)) from ⟨((ua.1.1.a (p := 125) (x := (102, 256)) rfl).1), (by rw [show mu_n Hsa 125 = 256 from (ua.1.1.a (p := 125) (x := (102, 256)) rfl).2]; exact vp_in_nI (n := k) (by omega) (by decide))⟩) ?_
    rw [(show (nI k).toNatClampNeg = k from nI_clamp (by omega))]
    obtain ⟨u2, r2, d2⟩ : um m (mu_sl Hsa 125 k ((U.2.2.2.2.1 125 k) &&& ((U.2.2.2.2.1 124) k))) ∧ ur m C Hsa (mu_sl Hsa 125 k ((U.2.2.2.2.1 125 k) &&& ((U.2.2.2.2.1 124) k))) ∧ ud m (mu_sl Hsa 125 k ((U.2.2.2.2.1 125 k) &&& ((U.2.2.2.2.1 124) k))) = (upL (upM U 125 0 (fun i => (U.2.2.2.2.1 125 i &&& U.2.2.2.2.1 124 i)) k) 125 k ((U.2.2.2.2.1 125 k) &&& ((U.2.2.2.2.1 124) k))) := ua.sL (C := C) da rfl
    generalize (mu_sl Hsa 125 k ((U.2.2.2.2.1 125 k) &&& ((U.2.2.2.2.1 124) k))) = Q2 at u2 r2 d2 ⊢
    have ht2 : ur m C H Q2 := hta.trans r2
    refine mw_go mu_g258 (k := 1) (f1 := (22, [(3, .inl ((nI k) + 1)), (0, .inr (.inr (some 99))), (1, .inr (.inr (some 125))), (2, .inr (.inr (some 124)))], [], Q2)) (C := []) rfl trivial ?_
    rw [(show ((nI k) + 1) = (nI (k + 1)) from (nI_add k 1))]
    refine mw_go mu_g258 (k := 1) (f1 := (2, [(3, .inl (nI (k + 1))), (0, .inr (.inr (some 99))), (1, .inr (.inr (some 125))), (2, .inr (.inr (some 124)))], [], Q2)) (C := []) rfl trivial ?_
    exact mw_sub (by simp) (iha (k + 1, Q2) ⟨u2, ht2, (show ud m Q2 = (upM U 125 0 (fun i => (U.2.2.2.2.1 125 i &&& U.2.2.2.2.1 124 i)) (k + 1)) from (by rw [d2]; exact upM_next0)), (show (k + 1) ≤ (pd f 0 P + 63) / 64 from (by omega))⟩ (by show (pd f 0 P + 63) / 64 - (k + 1) < (pd f 0 P + 63) / 64 - k; omega))
  · -- 25: not (nI k) < (nI ((pd f 0 P + 63) / 64))
    have nh1 : ¬ k < ((pd f 0 P + 63) / 64) := fun z => h1 (show nI k < nI ((pd f 0 P + 63) / 64) from (nI_ltI (by omega) (by omega)).mpr z)
    exact mw_of (fun _ => mu_ret rfl trivial ⟨Hsa, rfl, ua, hta, (by rw [da, show k = (pd f 0 P + 63) / 64 by omega])⟩)
theorem sp_common_145_126 (h : um m H) (e : ud m H = U) (hS : spx m U P f) : mu_TV (mu_D (d + 1)) 258 [.inr (.inr (some 99)), .inr (.inr (some 145)), .inr (.inr (some 126))] H (fun H1 => um m H1 ∧ ur m C H H1 ∧ ud m H1 = upM U 145 0 (fun i => (U.2.2.2.2.1 145 i &&& U.2.2.2.2.1 126 i)) ((pd f 0 P + 63) / 64)) := by
  obtain ⟨⟨s4, s10, s11, s12⟩, hk5, ⟨g8, g8b, g18, g18b⟩, ⟨gP, gpd, gsm⟩, hsp, hmo⟩ := hS
  refine mu_meth (M := mu_m258) rfl rfl ?_
  refine mw_ht (mu_fn_of (show [0, 1, 2].Nodup by decide)) ?_
  refine mw_go mu_g258 (k := 2) (f1 := (2, [(3, .inl (0 : Int32)), (0, .inr (.inr (some 99))), (1, .inr (.inr (some 145))), (2, .inr (.inr (some 126)))], [], H)) (C := []) rfl trivial ?_
  show mu_W _ _ (2, [(3, .inl (nI 0)), (0, .inr (.inr (some 99))), (1, .inr (.inr (some 145))), (2, .inr (.inr (some 126)))], [], H) _
  refine mw_sub (L' := [(3, .inl (nI 0)), (0, .inr (.inr (some 99))), (1, .inr (.inr (some 145))), (2, .inr (.inr (some 126)))]) (by simp) ?_
  refine mw_down (α := Nat × mu_H) (fun zs => (2, [(3, .inl (nI zs.1)), (0, .inr (.inr (some 99))), (1, .inr (.inr (some 145))), (2, .inr (.inr (some 126)))], [], zs.2)) (fun zs => (pd f 0 P + 63) / 64 - zs.1) (fun zs => um m zs.2 ∧ ur m C H zs.2 ∧ (ud m zs.2 = (upM U 145 0 (fun i => (U.2.2.2.2.1 145 i &&& U.2.2.2.2.1 126 i)) zs.1)) ∧ (zs.1 ≤ (pd f 0 P + 63) / 64)) (fun zs hza iha => ?_) (0, H) ⟨h, (ur.refl m C H), (show ud m H = (upM U 145 0 (fun i => (U.2.2.2.2.1 145 i &&& U.2.2.2.2.1 126 i)) 0) from (by rw [e]; exact upM_zero.symm)), (show 0 ≤ (pd f 0 P + 63) / 64 from (by omega))⟩
  obtain ⟨k, Hsa⟩ := zs
  obtain ⟨ua, hta, da, hk⟩ := hza
  have ua : um m Hsa := ua
  have hta : ur m C H Hsa := hta
  have da : ud m Hsa = (upM U 145 0 (fun i => (U.2.2.2.2.1 145 i &&& U.2.2.2.2.1 126 i)) k) := da
  have hk : k ≤ (pd f 0 P + 63) / 64 := hk
  show mu_W _ _ (2, [(3, .inl (nI k)), (0, .inr (.inr (some 99))), (1, .inr (.inr (some 145))), (2, .inr (.inr (some 126)))], [], Hsa) _
  refine mw_go mu_g258 (k := 3) (f1 := (7, [(3, .inl (nI k)), (0, .inr (.inr (some 99))), (1, .inr (.inr (some 145))), (2, .inr (.inr (some 126)))], [.inl (mu_i Hsa 99 12), .inl (nI k)], Hsa)) (C := [mu_is Hsa (some 99) 13]) rfl (show mu_is Hsa (some 99) 13 from (ua.1.1.is rfl)) ?_
  rw [(show mu_i Hsa 99 12 = (nI ((pd f 0 P + 63) / 64)) from (ud_i (U := (upM U 145 0 (fun i => (U.2.2.2.2.1 145 i &&& U.2.2.2.2.1 126 i)) k)) (m := m) (P := 99) (j := 12) da rfl).trans s12)]
  refine mw_if (P := (nI k) < (nI ((pd f 0 P + 63) / 64))) (a := 10) (b := 25) (fun _ => rfl) trivial (fun h1 => ?_) (fun h1 => ?_)
  · -- 10: (nI k) < (nI ((pd f 0 P + 63) / 64))
    have nh1 : k < ((pd f 0 P + 63) / 64) := (nI_ltI (by omega) (by omega)).mp (show nI k < nI ((pd f 0 P + 63) / 64) from h1)
    refine mw_go mu_g258 (k := 4) (f1 := (14, [(3, .inl (nI k)), (0, .inr (.inr (some 99))), (1, .inr (.inr (some 145))), (2, .inr (.inr (some 126)))], [.inr (.inl (mu_l Hsa 145 (nI k).toNatClampNeg)), .inl (nI k), .inr (.inr (some 145))], Hsa)) (C := [mu_isr Hsa (some 145) 102, vp_in (nI k) (mu_n Hsa 145)]) rfl (show (mu_isr Hsa (some 145) 102) ∧ (vp_in (nI k) (mu_n Hsa 145)) from ⟨((ua.1.1.a (p := 145) (x := (102, 256)) rfl).1).r, (by rw [show mu_n Hsa 145 = 256 from (ua.1.1.a (p := 145) (x := (102, 256)) rfl).2]; exact vp_in_nI (n := k) (by omega) (by decide))⟩) ?_
    rw [(show (mu_l Hsa 145 (nI k).toNatClampNeg) = (U.2.2.2.2.1 145 k) from (congrArg (mu_l Hsa 145) (show (nI k).toNatClampNeg = k from nI_clamp (by omega))).trans ((ud_l (m := m) (p := 145) (i := k) da rfl).trans (show (upM U 145 0 (fun i => (U.2.2.2.2.1 145 i &&& U.2.2.2.2.1 126 i)) k).2.2.2.2.1 145 k = (U.2.2.2.2.1 145 k) from (if_neg (fun z => by omega)))))]
    refine mw_go mu_g258 (k := 3) (f1 := (17, [(3, .inl (nI k)), (0, .inr (.inr (some 99))), (1, .inr (.inr (some 145))), (2, .inr (.inr (some 126)))], [.inr (.inl (mu_l Hsa 126 (nI k).toNatClampNeg)), .inr (.inl (U.2.2.2.2.1 145 k)), .inl (nI k), .inr (.inr (some 145))], Hsa)) (C := [mu_isr Hsa (some 126) 102, vp_in (nI k) (mu_n Hsa 126)]) rfl (show (mu_isr Hsa (some 126) 102) ∧ (vp_in (nI k) (mu_n Hsa 126)) from ⟨((ua.1.1.a (p := 126) (x := (102, 256)) rfl).1).r, (by rw [show mu_n Hsa 126 = 256 from (ua.1.1.a (p := 126) (x := (102, 256)) rfl).2]; exact vp_in_nI (n := k) (by omega) (by decide))⟩) ?_
    rw [(show (mu_l Hsa 126 (nI k).toNatClampNeg) = (U.2.2.2.2.1 126) k from (congrArg (mu_l Hsa 126) (show (nI k).toNatClampNeg = k from nI_clamp (by omega))).trans ((ud_l (m := m) (p := 126) (i := k) da rfl).trans (congrFun (show (upM U 145 0 (fun i => (U.2.2.2.2.1 145 i &&& U.2.2.2.2.1 126 i)) k).2.2.2.2.1 126 = (U.2.2.2.2.1 126) from rfl) k)))]
    refine mw_go mu_g258 (k := 2) (f1 := (19, [(3, .inl (nI k)), (0, .inr (.inr (some 99))), (1, .inr (.inr (some 145))), (2, .inr (.inr (some 126)))], [], (mu_sl Hsa 145 (nI k).toNatClampNeg ((U.2.2.2.2.1 145 k) &&& ((U.2.2.2.2.1 126) k))))) (C := [mu_is Hsa (some 145) 102, vp_in (nI k) (mu_n Hsa 145)]) rfl (show (mu_is Hsa (some 145) 102) ∧ (vp_in (nI k) (mu_n Hsa 145)) from ⟨((ua.1.1.a (p := 145) (x := (102, 256)) rfl).1), (by rw [show mu_n Hsa 145 = 256 from (ua.1.1.a (p := 145) (x := (102, 256)) rfl).2]; exact vp_in_nI (n := k) (by omega) (by decide))⟩) ?_
    rw [(show (nI k).toNatClampNeg = k from nI_clamp (by omega))]
    obtain ⟨u2, r2, d2⟩ : um m (mu_sl Hsa 145 k ((U.2.2.2.2.1 145 k) &&& ((U.2.2.2.2.1 126) k))) ∧ ur m C Hsa (mu_sl Hsa 145 k ((U.2.2.2.2.1 145 k) &&& ((U.2.2.2.2.1 126) k))) ∧ ud m (mu_sl Hsa 145 k ((U.2.2.2.2.1 145 k) &&& ((U.2.2.2.2.1 126) k))) = (upL (upM U 145 0 (fun i => (U.2.2.2.2.1 145 i &&& U.2.2.2.2.1 126 i)) k) 145 k ((U.2.2.2.2.1 145 k) &&& ((U.2.2.2.2.1 126) k))) := ua.sL (C := C) da rfl
    generalize (mu_sl Hsa 145 k ((U.2.2.2.2.1 145 k) &&& ((U.2.2.2.2.1 126) k))) = Q2 at u2 r2 d2 ⊢
    have ht2 : ur m C H Q2 := hta.trans r2
    refine mw_go mu_g258 (k := 1) (f1 := (22, [(3, .inl ((nI k) + 1)), (0, .inr (.inr (some 99))), (1, .inr (.inr (some 145))), (2, .inr (.inr (some 126)))], [], Q2)) (C := []) rfl trivial ?_
    rw [(show ((nI k) + 1) = (nI (k + 1)) from (nI_add k 1))]
    refine mw_go mu_g258 (k := 1) (f1 := (2, [(3, .inl (nI (k + 1))), (0, .inr (.inr (some 99))), (1, .inr (.inr (some 145))), (2, .inr (.inr (some 126)))], [], Q2)) (C := []) rfl trivial ?_
    exact mw_sub (by simp) (iha (k + 1, Q2) ⟨u2, ht2, (show ud m Q2 = (upM U 145 0 (fun i => (U.2.2.2.2.1 145 i &&& U.2.2.2.2.1 126 i)) (k + 1)) from (by rw [d2]; exact upM_next0)), (show (k + 1) ≤ (pd f 0 P + 63) / 64 from (by omega))⟩ (by show (pd f 0 P + 63) / 64 - (k + 1) < (pd f 0 P + 63) / 64 - k; omega))
  · -- 25: not (nI k) < (nI ((pd f 0 P + 63) / 64))
    have nh1 : ¬ k < ((pd f 0 P + 63) / 64) := fun z => h1 (show nI k < nI ((pd f 0 P + 63) / 64) from (nI_ltI (by omega) (by omega)).mpr z)
    exact mw_of (fun _ => mu_ret rfl trivial ⟨Hsa, rfl, ua, hta, (by rw [da, show k = (pd f 0 P + 63) / 64 by omega])⟩)
end SpaceSmall
