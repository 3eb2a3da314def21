/-! SOUND AS DATA: no MODULE has itself in it; how much a MODULE makes -/
def en (s : Ts) (k : Nat) : Nat := ((s 1).2 k 10).toNatClampNeg
/-- what a VAR makes -/
def wv (s : Ts) (v : Nat) : Nat := 1 + (if (s 3).2 v 1 = 3 then ((s 3).2 v 3).toNatClampNeg + en s ((s 3).2 v 4).toNatClampNeg else 0)
/-- how many INSTANCES a MODULE makes; a VAR makes -/
def inn (s : Ts) (k : Nat) : Nat := ((s 1).2 k 9).toNatClampNeg
def wj (s : Ts) (v : Nat) : Nat := if (s 3).2 v 1 = 3 then inn s ((s 3).2 v 4).toNatClampNeg else 0
def sm (f : Nat → Nat) (a : Nat) : Nat → Nat
  | 0 => 0
  | n + 1 => sm f a n + f (a + n)
def ws (s : Ts) (a n : Nat) : Nat := sm (wv s) a n
def tot (s : Ts) (k : Nat) : Nat := (sp s (k + 1) 3 - sp s k 3) + (sp s (k + 1) 4 - sp s k 4) + (sp s (k + 1) 5 - sp s k 5) + ws s (sp s k 2) (sp s (k + 1) 2 - sp s k 2)
/-- the MODULES of a MODULE's VARS have been reckoned -/
def kid (s : Ts) (k b : Nat) : Prop := ∀ v, sp s k 2 ≤ v → v < b → (s 3).2 v 1 = 3 → ¬ (s 1).2 ((s 3).2 v 4).toNatClampNeg 8 = 0
def RK (s : Ts) (k : Nat) : Prop := (s 1).2 k 8 = 0 ∨ ((∃ e, (s 1).2 k 10 = nI e ∧ e ≤ 300000000 ∧ min 131072 (tot s k) ≤ e) ∧ kid s k (sp s (k + 1) 2) ∧ ∃ n, (s 1).2 k 9 = nI n ∧ n ≤ 201 ∧ min 201 (1 + sm (wj s) (sp s k 2) (sp s (k + 1) 2 - sp s k 2)) ≤ n)
def VMs (s : Ts) : Prop := ∀ k, k < (s 1).1 → ∀ v, sp s k 2 ≤ v → v < sp s (k + 1) 2 → VM s v
def RKs (s : Ts) : Prop := ∀ k, k < (s 1).1 → RK s k
def cnt (s : Ts) : Nat → Nat
  | 0 => 0
  | n + 1 => cnt s n + (if (s 1).2 n 8 = 0 then 0 else 1)
section Reckon
variable {s s' : Ts} {i k a n : Nat}
theorem sm_step {f : Nat → Nat} (h : a ≤ k) : sm f a (k + 1 - a) = sm f a (k - a) + f k := by
  obtain ⟨q, rfl⟩ : ∃ q, k = a + q := ⟨k - a, by omega⟩
  rw [show a + q + 1 - a = q + 1 by omega, show a + q - a = q by omega]
  rfl
theorem sm_congr {f g : Nat → Nat} : ∀ {n : Nat}, (∀ v, a ≤ v → v < a + n → g v = f v) → sm g a n = sm f a n
  | 0, _ => rfl
  | n + 1, h => by
    show sm g a n + g (a + n) = sm f a n + f (a + n)
    rw [sm_congr (fun v h1 h2 => h v h1 (by omega)), h (a + n) (by omega) (by omega)]
theorem sm_head {f : Nat → Nat} : ∀ {n a : Nat}, sm f a (n + 1) = f a + sm f (a + 1) n
  | 0, a => by
    show 0 + f (a + 0) = f a + 0
    rw [Nat.add_zero, Nat.zero_add, Nat.add_zero]
  | n + 1, a => by
    show sm f a (n + 1) + f (a + (n + 1)) = f a + (sm f (a + 1) n + f (a + 1 + n))
    rw [sm_head, show a + (n + 1) = a + 1 + n by omega, Nat.add_assoc]
theorem ws_step (h : a ≤ k) : ws s a (k + 1 - a) = ws s a (k - a) + wv s k := sm_step h
theorem wj_plain (h : ¬ (s 3).2 k 1 = 3) : wj s k = 0 := if_neg h
theorem wj_mod {c n : Nat} (h : (s 3).2 k 1 = 3) (h4 : (s 3).2 k 4 = nI c) (he : (s 1).2 c 9 = nI n) (hc : c < 2147483648) (hn : n < 2147483648) : wj s k = n := by
  unfold wj inn
  rw [if_pos h, h4, nI_clamp hc, he, nI_clamp hn]
theorem wv_plain (h : ¬ (s 3).2 k 1 = 3) : wv s k = 1 := by
  unfold wv
  rw [if_neg h]
theorem wv_mod {b c e : Nat} (h : (s 3).2 k 1 = 3) (h3 : (s 3).2 k 3 = nI b) (h4 : (s 3).2 k 4 = nI c) (he : (s 1).2 c 10 = nI e) (hb : b < 2147483648) (hc : c < 2147483648) (h5 : e < 2147483648) : wv s k = 1 + (b + e) := by
  unfold wv en
  rw [if_pos h, h3, h4, nI_clamp hb, nI_clamp hc, he, nI_clamp h5]
theorem cnt_le : ∀ n, cnt s n ≤ n
  | 0 => Nat.le_refl _
  | n + 1 => by
    show cnt s n + (if (s 1).2 n 8 = 0 then 0 else 1) ≤ n + 1
    have := cnt_le n
    split <;> omega
theorem cnt_all : ∀ n, cnt s n = n → ∀ k, k < n → ¬ (s 1).2 k 8 = 0
  | 0, _, k, hk => absurd hk (Nat.not_lt_zero k)
  | n + 1, h, k, hk => by
    have h : cnt s n + (if (s 1).2 n 8 = 0 then 0 else 1) = n + 1 := h
    have hl := cnt_le (s := s) n
    by_cases h0 : (s 1).2 n 8 = 0
    · rw [if_pos h0] at h
      omega
    · rw [if_neg h0] at h
      by_cases hk2 : k < n
      · exact cnt_all n (by omega) k hk2
      · have : k = n := by omega
        subst this
        exact h0
theorem cnt_up (hi : (s 1).2 i 8 = 0) (hi' : ¬ (s' 1).2 i 8 = 0) (hr : ∀ k, k ≠ i → (s' 1).2 k 8 = (s 1).2 k 8) : ∀ n, cnt s' n = cnt s n + (if i < n then 1 else 0)
  | 0 => rfl
  | n + 1 => by
    show cnt s' n + (if (s' 1).2 n 8 = 0 then 0 else 1) = cnt s n + (if (s 1).2 n 8 = 0 then 0 else 1) + (if i < n + 1 then 1 else 0)
    rw [cnt_up hi hi' hr n]
    by_cases e : n = i
    · subst e
      rw [if_neg hi', if_pos hi, if_neg (Nat.lt_irrefl _), if_pos (show n < n + 1 by omega)]
    · rw [hr n e]
      by_cases h2 : i < n
      · rw [if_pos h2, if_pos (show i < n + 1 by omega)]
        omega
      · rw [if_neg h2, if_neg (show ¬ i < n + 1 by omega)]
        omega
/-- a MODULE has been reckoned: its row alone is another one -/
theorem RKs.up (h : RKs s) (hv : VMs s) (e : eqc s s') (e1 : ∀ j, j ≠ 1 → s' j = s j) (hr : ∀ k c, k ≠ i → (s' 1).2 k c = (s 1).2 k c) (hi : (s 1).2 i 8 = 0) (hm : (s 1).1 ≤ 67108864) (hA : ∃ e, (s' 1).2 i 10 = nI e ∧ e ≤ 300000000 ∧ min 131072 (tot s i) ≤ e) (hk : kid s i (sp s (i + 1) 2)) (hN : ∃ n, (s' 1).2 i 9 = nI n ∧ n ≤ 201 ∧ min 201 (1 + sm (wj s) (sp s i 2) (sp s (i + 1) 2 - sp s i 2)) ≤ n) : RKs s' := by
  have s3 : s' 3 = s 3 := e1 3 (by decide)
  have key : ∀ k, k < (s 1).1 → kid s k (sp s (k + 1) 2) → tot s' k = tot s k ∧ kid s' k (sp s' (k + 1) 2) ∧ sm (wj s') (sp s' k 2) (sp s' (k + 1) 2 - sp s' k 2) = sm (wj s) (sp s k 2) (sp s (k + 1) 2 - sp s k 2) := fun k hk0 hkid => by
    have hc : ∀ v, sp s k 2 ≤ v → v < sp s (k + 1) 2 → (s 3).2 v 1 = 3 → ((s 3).2 v 4).toNatClampNeg ≠ i := fun v h1 h2 h3 z => hkid v h1 h2 h3 (by rw [z]; exact hi)
    refine ⟨?_, fun v h1 h2 h3 => ?_, ?_⟩
    · unfold tot ws
      rw [e.spc (by decide), e.spc (by decide), e.spc (by decide), e.spc (by decide), e.spc (by decide), e.spc (by decide), e.spc (by decide), e.spc (by decide)]
      rw [sm_congr (f := wv s) (fun v h1 h2 => ?_)]
      unfold wv
      rw [s3]
      by_cases h3 : (s 3).2 v 1 = 3
      · rw [if_pos h3, if_pos h3]
        unfold en
        rw [hr _ 10 (hc v h1 (by omega) h3)]
      · rw [if_neg h3, if_neg h3]
    · rw [e.spc (by decide)] at h1 h2
      rw [s3] at h3
      rw [s3, hr _ 8 (hc v h1 h2 h3)]
      exact hkid v h1 h2 h3
    · rw [e.spc (by decide), e.spc (by decide)]
      refine sm_congr (fun v h1 h2 => ?_)
      unfold wj
      rw [s3]
      by_cases h3 : (s 3).2 v 1 = 3
      · rw [if_pos h3, if_pos h3]
        unfold inn
        rw [hr _ 9 (hc v h1 (by omega) h3)]
      · rw [if_neg h3, if_neg h3]
  intro k hk0
  rw [e.1 1 (by decide)] at hk0
  by_cases ek : k = i
  · subst ek
    obtain ⟨t1, t2, t3⟩ := key k hk0 hk
    right
    refine ⟨?_, t2, ?_⟩
    · rw [t1]
      exact hA
    · rw [t3]
      exact hN
  · rcases h k hk0 with z | ⟨z1, z2, z3⟩
    · left
      rw [hr k 8 ek]
      exact z
    · obtain ⟨t1, t2, t3⟩ := key k hk0 z2
      right
      refine ⟨?_, t2, ?_⟩
      · rw [t1, hr k 10 ek]
        exact z1
      · rw [t3, hr k 9 ek]
        exact z3
theorem VMs.keep (h : VMs s) (e : eqc s s') (e4 : ∀ v, (s' 3).2 v 4 = (s 3).2 v 4) : VMs s' := fun k hk v h1 h2 => by
  rw [e.1 1 (by decide)] at hk
  rw [e.spc (by decide)] at h1 h2
  exact (h k hk v h1 h2).keep e (e4 v)
theorem sub6 {a b c d e f : Nat} (h1 : b ≤ a) (h2 : d ≤ c) (h3 : f ≤ e) : nI a - nI b + nI c - nI d + nI e - nI f = nI ((a - b) + (c - d) + (e - f)) := by
  rw [pk_sub h1, nI_add, pk_sub (by omega), nI_add, pk_sub (by omega)]
  exact congrArg nI (by omega)
end Reckon
section SoundEnds
variable {H : mu_H} {d m i : Nat} {X : Ts} {C : Nat → Nat}
theorem so_reckon2 (h : dm m H) (hI : SI m X H) (hc : CT X) (hi : i < (X 1).1) (hVM : VMs (ak m H)) (hRK : RKs (ak m H)) (hD : (ak m H 1).2 i 8 = 0) : mu_TI (mu_D (d + 3)) 183 [.inr (.inr (some 92)), .inl (nI i)] H (fun x H1 => (x = 0 ∧ H = H1) ∨ (x = 1 ∧ dm m H1 ∧ rl m C H H1 ∧ SI m X H1 ∧ RKs (ak m H1) ∧ VMs (ak m H1) ∧ (∀ j, j ≠ 1 → ak m H1 j = ak m H j) ∧ cnt (ak m H1) (X 1).1 = cnt (ak m H) (X 1).1 + 1)) := by
  have hM : (X 1).1 ≤ 67108864 := by rw [← hI.n (j := 1) (by decide)]; exact h.lt rfl (by decide)
  obtain ⟨le1, lf1, lg1⟩ := hI.le h hc hi (c := 1) (j := 2) (by decide) (by decide) rfl
  obtain ⟨le2, lf2, lg2⟩ := hI.le h hc hi (c := 2) (j := 3) (by decide) (by decide) rfl
  obtain ⟨le3, lf3, lg3⟩ := hI.le h hc hi (c := 3) (j := 6) (by decide) (by decide) rfl
  obtain ⟨le4, lf4, lg4⟩ := hI.le h hc hi (c := 4) (j := 7) (by decide) (by decide) rfl
  obtain ⟨le5, lf5, lg5⟩ := hI.le h hc hi (c := 5) (j := 8) (by decide) (by decide) rfl
  refine mu_meth (M := mu_m183) rfl rfl ?_
  refine mw_ht (mu_fn_of (show [0, 1].Nodup by decide)) ?_
  refine mw_go mu_g183 (k := 4) (f1 := (6, [(2, .inl (1 : Int32)), (0, .inr (.inr (some 92))), (1, .inl (nI i))], [.inr (.inr (mu_r H 92 2))], H)) (C := [mu_is H (some 92) 12]) rfl (show mu_is H (some 92) 12 from h.1.is rfl) ?_
  rw [h.2.2.1]
  refine mw_go mu_g183 (k := 4) (f1 := (12, [(2, .inl (1 : Int32)), (0, .inr (.inr (some 92))), (1, .inl (nI i))], [.inr (.inr (mu_r H 92 2)), .inl (3 : Int32), .inl (nI i), .inr (.inr (some m))], H)) (C := [mu_is H (some 92) 12]) rfl (show mu_is H (some 92) 12 from h.1.is rfl) ?_
  rw [h.2.2.1]
  refine mw_go mu_g183 (k := 1) (f1 := (15, [(2, .inl (1 : Int32)), (0, .inr (.inr (some 92))), (1, .inl (nI i))], [.inr (.inr (mu_r H m 6)), .inl (3 : Int32), .inl (nI i), .inr (.inr (some m))], H)) (C := [mu_is H (some m) 6]) rfl (show mu_is H (some m) 6 from (show mu_is H (some m) 6 from gi_im h.1 h.2.1)) ?_
  rw [(show mu_r H m 6 = some (m + 13) from (gi_mr h.1 h.2.1 (j := 6) (by decide)).trans (congrArg some (by omega)))]
  refine mw_cIe (fun _ => rfl) (show mu_is H (some m) 6 from (show mu_is H (some m) 6 from gi_im h.1 h.2.1)) (dm.stopr (d := d) h rfl (j := 6) (by decide) rfl (c := 3) (by decide) (nI i)) ?_
  rw [show (stp (ak m H) (nI i) 3 6) = (nI (sp X (i + 1) 3)) from hI.stop h hc hi (by decide) (by decide) rfl]
  refine mw_go mu_g183 (k := 2) (f1 := (22, [(2, .inl (1 : Int32)), (0, .inr (.inr (some 92))), (1, .inl (nI i))], [.inr (.inr (mu_r H 92 2)), .inl (nI (sp X (i + 1) 3))], H)) (C := [mu_is H (some 92) 12]) rfl (show mu_is H (some 92) 12 from h.1.is rfl) ?_
  rw [h.2.2.1]
  refine mw_go mu_g183 (k := 1) (f1 := (25, [(2, .inl (1 : Int32)), (0, .inr (.inr (some 92))), (1, .inl (nI i))], [.inr (.inr (mu_r H m 1)), .inl (nI (sp X (i + 1) 3))], H)) (C := [mu_is H (some m) 6]) rfl (show mu_is H (some m) 6 from (show mu_is H (some m) 6 from gi_im h.1 h.2.1)) ?_
  rw [(show mu_r H m 1 = some (m + 3) from (gi_mr h.1 h.2.1 (j := 1) (by decide)).trans (congrArg some (by omega)))]
  refine mw_go mu_g183 (k := 2) (f1 := (27, [(2, .inl (1 : Int32)), (0, .inr (.inr (some 92))), (1, .inl (nI i))], [.inl (3 : Int32), .inl (nI i), .inr (.inr (some (m + 3))), .inl (nI (sp X (i + 1) 3))], H)) (C := []) rfl trivial ?_
  refine mw_cIe (fun _ => rfl) (show mu_is H (some (m + 3)) 10 from (h.1.w (md_w1 h.2.1)).1) (dm.getr (d := (d + 1)) h rfl (j := 1) (by decide) rfl (nI i) (c := 3) (by decide)) ?_
  rw [show (tget ((ak m H) 1) (nI i) 3) = (nI (sp X i 3)) from hI.start h hc hi (by decide) (by decide)]
  refine mw_go mu_g183 (k := 3) (f1 := (35, [(2, .inl (1 : Int32)), (0, .inr (.inr (some 92))), (1, .inl (nI i))], [.inr (.inr (mu_r H 92 2)), .inl ((nI (sp X (i + 1) 3)) - (nI (sp X i 3)))], H)) (C := [mu_is H (some 92) 12]) rfl (show mu_is H (some 92) 12 from h.1.is rfl) ?_
  rw [h.2.2.1]
  refine mw_go mu_g183 (k := 4) (f1 := (41, [(2, .inl (1 : Int32)), (0, .inr (.inr (some 92))), (1, .inl (nI i))], [.inr (.inr (mu_r H 92 2)), .inl (4 : Int32), .inl (nI i), .inr (.inr (some m)), .inl ((nI (sp X (i + 1) 3)) - (nI (sp X i 3)))], H)) (C := [mu_is H (some 92) 12]) rfl (show mu_is H (some 92) 12 from h.1.is rfl) ?_
  rw [h.2.2.1]
  refine mw_go mu_g183 (k := 1) (f1 := (44, [(2, .inl (1 : Int32)), (0, .inr (.inr (some 92))), (1, .inl (nI i))], [.inr (.inr (mu_r H m 7)), .inl (4 : Int32), .inl (nI i), .inr (.inr (some m)), .inl ((nI (sp X (i + 1) 3)) - (nI (sp X i 3)))], H)) (C := [mu_is H (some m) 6]) rfl (show mu_is H (some m) 6 from (show mu_is H (some m) 6 from gi_im h.1 h.2.1)) ?_
  rw [(show mu_r H m 7 = some (m + 15) from (gi_mr h.1 h.2.1 (j := 7) (by decide)).trans (congrArg some (by omega)))]
  refine mw_cIe (fun _ => rfl) (show mu_is H (some m) 6 from (show mu_is H (some m) 6 from gi_im h.1 h.2.1)) (dm.stopr (d := d) h rfl (j := 7) (by decide) rfl (c := 4) (by decide) (nI i)) ?_
  rw [show (stp (ak m H) (nI i) 4 7) = (nI (sp X (i + 1) 4)) from hI.stop h hc hi (by decide) (by decide) rfl]
  refine mw_go mu_g183 (k := 3) (f1 := (52, [(2, .inl (1 : Int32)), (0, .inr (.inr (some 92))), (1, .inl (nI i))], [.inr (.inr (mu_r H 92 2)), .inl (((nI (sp X (i + 1) 3)) - (nI (sp X i 3))) + (nI (sp X (i + 1) 4)))], H)) (C := [mu_is H (some 92) 12]) rfl (show mu_is H (some 92) 12 from h.1.is rfl) ?_
  rw [h.2.2.1]
  refine mw_go mu_g183 (k := 1) (f1 := (55, [(2, .inl (1 : Int32)), (0, .inr (.inr (some 92))), (1, .inl (nI i))], [.inr (.inr (mu_r H m 1)), .inl (((nI (sp X (i + 1) 3)) - (nI (sp X i 3))) + (nI (sp X (i + 1) 4)))], H)) (C := [mu_is H (some m) 6]) rfl (show mu_is H (some m) 6 from (show mu_is H (some m) 6 from gi_im h.1 h.2.1)) ?_
  rw [(show mu_r H m 1 = some (m + 3) from (gi_mr h.1 h.2.1 (j := 1) (by decide)).trans (congrArg some (by omega)))]
  refine mw_go mu_g183 (k := 2) (f1 := (57, [(2, .inl (1 : Int32)), (0, .inr (.inr (some 92))), (1, .inl (nI i))], [.inl (4 : Int32), .inl (nI i), .inr (.inr (some (m + 3))), .inl (((nI (sp X (i + 1) 3)) - (nI (sp X i 3))) + (nI (sp X (i + 1) 4)))], H)) (C := []) rfl trivial ?_
  refine mw_cIe (fun _ => rfl) (show mu_is H (some (m + 3)) 10 from (h.1.w (md_w1 h.2.1)).1) (dm.getr (d := (d + 1)) h rfl (j := 1) (by decide) rfl (nI i) (c := 4) (by decide)) ?_
  rw [show (tget ((ak m H) 1) (nI i) 4) = (nI (sp X i 4)) from hI.start h hc hi (by decide) (by decide)]
  refine mw_go mu_g183 (k := 3) (f1 := (65, [(2, .inl (1 : Int32)), (0, .inr (.inr (some 92))), (1, .inl (nI i))], [.inr (.inr (mu_r H 92 2)), .inl ((((nI (sp X (i + 1) 3)) - (nI (sp X i 3))) + (nI (sp X (i + 1) 4))) - (nI (sp X i 4)))], H)) (C := [mu_is H (some 92) 12]) rfl (show mu_is H (some 92) 12 from h.1.is rfl) ?_
  rw [h.2.2.1]
  refine mw_go mu_g183 (k := 4) (f1 := (71, [(2, .inl (1 : Int32)), (0, .inr (.inr (some 92))), (1, .inl (nI i))], [.inr (.inr (mu_r H 92 2)), .inl (5 : Int32), .inl (nI i), .inr (.inr (some m)), .inl ((((nI (sp X (i + 1) 3)) - (nI (sp X i 3))) + (nI (sp X (i + 1) 4))) - (nI (sp X i 4)))], H)) (C := [mu_is H (some 92) 12]) rfl (show mu_is H (some 92) 12 from h.1.is rfl) ?_
  rw [h.2.2.1]
  refine mw_go mu_g183 (k := 1) (f1 := (74, [(2, .inl (1 : Int32)), (0, .inr (.inr (some 92))), (1, .inl (nI i))], [.inr (.inr (mu_r H m 8)), .inl (5 : Int32), .inl (nI i), .inr (.inr (some m)), .inl ((((nI (sp X (i + 1) 3)) - (nI (sp X i 3))) + (nI (sp X (i + 1) 4))) - (nI (sp X i 4)))], H)) (C := [mu_is H (some m) 6]) rfl (show mu_is H (some m) 6 from (show mu_is H (some m) 6 from gi_im h.1 h.2.1)) ?_
  rw [(show mu_r H m 8 = some (m + 17) from (gi_mr h.1 h.2.1 (j := 8) (by decide)).trans (congrArg some (by omega)))]
  refine mw_cIe (fun _ => rfl) (show mu_is H (some m) 6 from (show mu_is H (some m) 6 from gi_im h.1 h.2.1)) (dm.stopr (d := d) h rfl (j := 8) (by decide) rfl (c := 5) (by decide) (nI i)) ?_
  rw [show (stp (ak m H) (nI i) 5 8) = (nI (sp X (i + 1) 5)) from hI.stop h hc hi (by decide) (by decide) rfl]
  refine mw_go mu_g183 (k := 3) (f1 := (82, [(2, .inl (1 : Int32)), (0, .inr (.inr (some 92))), (1, .inl (nI i))], [.inr (.inr (mu_r H 92 2)), .inl (((((nI (sp X (i + 1) 3)) - (nI (sp X i 3))) + (nI (sp X (i + 1) 4))) - (nI (sp X i 4))) + (nI (sp X (i + 1) 5)))], H)) (C := [mu_is H (some 92) 12]) rfl (show mu_is H (some 92) 12 from h.1.is rfl) ?_
  rw [h.2.2.1]
  refine mw_go mu_g183 (k := 1) (f1 := (85, [(2, .inl (1 : Int32)), (0, .inr (.inr (some 92))), (1, .inl (nI i))], [.inr (.inr (mu_r H m 1)), .inl (((((nI (sp X (i + 1) 3)) - (nI (sp X i 3))) + (nI (sp X (i + 1) 4))) - (nI (sp X i 4))) + (nI (sp X (i + 1) 5)))], H)) (C := [mu_is H (some m) 6]) rfl (show mu_is H (some m) 6 from (show mu_is H (some m) 6 from gi_im h.1 h.2.1)) ?_
  rw [(show mu_r H m 1 = some (m + 3) from (gi_mr h.1 h.2.1 (j := 1) (by decide)).trans (congrArg some (by omega)))]
  refine mw_go mu_g183 (k := 2) (f1 := (87, [(2, .inl (1 : Int32)), (0, .inr (.inr (some 92))), (1, .inl (nI i))], [.inl (5 : Int32), .inl (nI i), .inr (.inr (some (m + 3))), .inl (((((nI (sp X (i + 1) 3)) - (nI (sp X i 3))) + (nI (sp X (i + 1) 4))) - (nI (sp X i 4))) + (nI (sp X (i + 1) 5)))], H)) (C := []) rfl trivial ?_
  refine mw_cIe (fun _ => rfl) (show mu_is H (some (m + 3)) 10 from (h.1.w (md_w1 h.2.1)).1) (dm.getr (d := (d + 1)) h rfl (j := 1) (by decide) rfl (nI i) (c := 5) (by decide)) ?_
  rw [show (tget ((ak m H) 1) (nI i) 5) = (nI (sp X i 5)) from hI.start h hc hi (by decide) (by decide)]
  refine mw_go mu_g183 (k := 4) (f1 := (96, [(3, .inl ((((((nI (sp X (i + 1) 3)) - (nI (sp X i 3))) + (nI (sp X (i + 1) 4))) - (nI (sp X i 4))) + (nI (sp X (i + 1) 5))) - (nI (sp X i 5)))), (2, .inl (1 : Int32)), (0, .inr (.inr (some 92))), (1, .inl (nI i))], [.inr (.inr (mu_r H 92 2))], H)) (C := [mu_is H (some 92) 12]) rfl (show mu_is H (some 92) 12 from h.1.is rfl) ?_
  rw [h.2.2.1]
  refine mw_go mu_g183 (k := 1) (f1 := (99, [(3, .inl ((((((nI (sp X (i + 1) 3)) - (nI (sp X i 3))) + (nI (sp X (i + 1) 4))) - (nI (sp X i 4))) + (nI (sp X (i + 1) 5))) - (nI (sp X i 5)))), (2, .inl (1 : Int32)), (0, .inr (.inr (some 92))), (1, .inl (nI i))], [.inr (.inr (mu_r H m 1))], H)) (C := [mu_is H (some m) 6]) rfl (show mu_is H (some m) 6 from (show mu_is H (some m) 6 from gi_im h.1 h.2.1)) ?_
  rw [(show mu_r H m 1 = some (m + 3) from (gi_mr h.1 h.2.1 (j := 1) (by decide)).trans (congrArg some (by omega)))]
  refine mw_go mu_g183 (k := 2) (f1 := (101, [(3, .inl ((((((nI (sp X (i + 1) 3)) - (nI (sp X i 3))) + (nI (sp X (i + 1) 4))) - (nI (sp X i 4))) + (nI (sp X (i + 1) 5))) - (nI (sp X i 5)))), (2, .inl (1 : Int32)), (0, .inr (.inr (some 92))), (1, .inl (nI i))], [.inl (2 : Int32), .inl (nI i), .inr (.inr (some (m + 3)))], H)) (C := []) rfl trivial ?_
  refine mw_cIe (fun _ => rfl) (show mu_is H (some (m + 3)) 10 from (h.1.w (md_w1 h.2.1)).1) (dm.getr (d := (d + 1)) h rfl (j := 1) (by decide) rfl (nI i) (c := 2) (by decide)) ?_
  rw [show (tget ((ak m H) 1) (nI i) 2) = (nI (sp X i 2)) from hI.start h hc hi (by decide) (by decide)]
  refine mw_go mu_g183 (k := 1) (f1 := (106, [(4, .inl (nI (sp X i 2))), (3, .inl ((((((nI (sp X (i + 1) 3)) - (nI (sp X i 3))) + (nI (sp X (i + 1) 4))) - (nI (sp X i 4))) + (nI (sp X (i + 1) 5))) - (nI (sp X i 5)))), (2, .inl (1 : Int32)), (0, .inr (.inr (some 92))), (1, .inl (nI i))], [], H)) (C := []) rfl trivial ?_
  rw [show ((((((nI (sp X (i + 1) 3)) - (nI (sp X i 3))) + (nI (sp X (i + 1) 4))) - (nI (sp X i 4))) + (nI (sp X (i + 1) 5))) - (nI (sp X i 5))) = nI ((sp X (i + 1) 3 - sp X i 3) + (sp X (i + 1) 4 - sp X i 4) + (sp X (i + 1) 5 - sp X i 5)) from sub6 le3 le4 le5]
  show mu_W _ _ (106, [(4, .inl (nI (sp X i 2))), (3, .inl (nI ((sp X (i + 1) 3 - sp X i 3) + (sp X (i + 1) 4 - sp X i 4) + (sp X (i + 1) 5 - sp X i 5)))), (2, .inl (nI 1)), (0, .inr (.inr (some 92))), (1, .inl (nI i))], [], H) _
  refine mw_sub (L' := [(2, .inl (nI 1)), (3, .inl (nI ((sp X (i + 1) 3 - sp X i 3) + (sp X (i + 1) 4 - sp X i 4) + (sp X (i + 1) 5 - sp X i 5)))), (4, .inl (nI (sp X i 2))), (0, .inr (.inr (some 92))), (1, .inl (nI i))]) (by simp) ?_
  refine mw_down (α := Nat × Nat × Nat) (fun zs => (106, [(2, .inl (nI zs.1)), (3, .inl (nI zs.2.1)), (4, .inl (nI zs.2.2)), (0, .inr (.inr (some 92))), (1, .inl (nI i))], [], H)) (fun zs => sp X (i + 1) 2 - zs.2.2) (fun zs => (sp X i 2 ≤ zs.2.2) ∧ (zs.2.2 ≤ sp X (i + 1) 2) ∧ (min 131072 ((sp X (i + 1) 3 - sp X i 3) + (sp X (i + 1) 4 - sp X i 4) + (sp X (i + 1) 5 - sp X i 5) + ws (ak m H) (sp X i 2) (zs.2.2 - sp X i 2)) ≤ zs.2.1) ∧ (zs.2.1 ≤ 201457664 + (zs.2.2 - sp X i 2)) ∧ (kid (ak m H) i zs.2.2) ∧ (min 201 (1 + sm (wj (ak m H)) (sp X i 2) (zs.2.2 - sp X i 2)) ≤ zs.1) ∧ (zs.1 ≤ 201)) (fun zs hs ih => ?_) (1, (sp X (i + 1) 3 - sp X i 3) + (sp X (i + 1) 4 - sp X i 4) + (sp X (i + 1) 5 - sp X i 5), sp X i 2) ⟨(show sp X i 2 ≤ (sp X i 2) from by omega), (show (sp X i 2) ≤ sp X (i + 1) 2 from by omega), (show min 131072 ((sp X (i + 1) 3 - sp X i 3) + (sp X (i + 1) 4 - sp X i 4) + (sp X (i + 1) 5 - sp X i 5) + ws (ak m H) (sp X i 2) ((sp X i 2) - sp X i 2)) ≤ ((sp X (i + 1) 3 - sp X i 3) + (sp X (i + 1) 4 - sp X i 4) + (sp X (i + 1) 5 - sp X i 5)) from (by rw [Nat.sub_self]; exact Nat.min_le_right _ _)), (show ((sp X (i + 1) 3 - sp X i 3) + (sp X (i + 1) 4 - sp X i 4) + (sp X (i + 1) 5 - sp X i 5)) ≤ 201457664 + ((sp X i 2) - sp X i 2) from by omega), (show kid (ak m H) i (sp X i 2) from (fun v h1 h2 => absurd h1 (by rw [hI.2.2.spc (by decide)]; omega))), (show min 201 (1 + sm (wj (ak m H)) (sp X i 2) ((sp X i 2) - sp X i 2)) ≤ 1 from (by rw [Nat.sub_self]; exact Nat.min_le_right _ _)), (show 1 ≤ 201 from by omega)⟩
  obtain ⟨N, A, k⟩ := zs
  obtain ⟨hk1, hk2, hA, hA2, hdn, hN, hN2⟩ := hs
  have hk1 : sp X i 2 ≤ k := hk1
  have hk2 : k ≤ sp X (i + 1) 2 := hk2
  have hA : min 131072 ((sp X (i + 1) 3 - sp X i 3) + (sp X (i + 1) 4 - sp X i 4) + (sp X (i + 1) 5 - sp X i 5) + ws (ak m H) (sp X i 2) (k - sp X i 2)) ≤ A := hA
  have hA2 : A ≤ 201457664 + (k - sp X i 2) := hA2
  have hdn : kid (ak m H) i k := hdn
  have hN : min 201 (1 + sm (wj (ak m H)) (sp X i 2) (k - sp X i 2)) ≤ N := hN
  have hN2 : N ≤ 201 := hN2
  show mu_W _ _ (106, [(2, .inl (nI N)), (3, .inl (nI A)), (4, .inl (nI k)), (0, .inr (.inr (some 92))), (1, .inl (nI i))], [], H) _
  refine mw_go mu_g183 (k := 3) (f1 := (112, [(2, .inl (nI N)), (3, .inl (nI A)), (4, .inl (nI k)), (0, .inr (.inr (some 92))), (1, .inl (nI i))], [.inr (.inr (mu_r H 92 2)), .inl (nI k)], H)) (C := [mu_is H (some 92) 12]) rfl (show mu_is H (some 92) 12 from h.1.is rfl) ?_
  rw [h.2.2.1]
  refine mw_go mu_g183 (k := 4) (f1 := (118, [(2, .inl (nI N)), (3, .inl (nI A)), (4, .inl (nI k)), (0, .inr (.inr (some 92))), (1, .inl (nI i))], [.inr (.inr (mu_r H 92 2)), .inl (2 : Int32), .inl (nI i), .inr (.inr (some m)), .inl (nI k)], H)) (C := [mu_is H (some 92) 12]) rfl (show mu_is H (some 92) 12 from h.1.is rfl) ?_
  rw [h.2.2.1]
  refine mw_go mu_g183 (k := 1) (f1 := (121, [(2, .inl (nI N)), (3, .inl (nI A)), (4, .inl (nI k)), (0, .inr (.inr (some 92))), (1, .inl (nI i))], [.inr (.inr (mu_r H m 3)), .inl (2 : Int32), .inl (nI i), .inr (.inr (some m)), .inl (nI k)], H)) (C := [mu_is H (some m) 6]) rfl (show mu_is H (some m) 6 from (show mu_is H (some m) 6 from gi_im h.1 h.2.1)) ?_
  rw [(show mu_r H m 3 = some (m + 7) from (gi_mr h.1 h.2.1 (j := 3) (by decide)).trans (congrArg some (by omega)))]
  refine mw_cIe (fun _ => rfl) (show mu_is H (some m) 6 from (show mu_is H (some m) 6 from gi_im h.1 h.2.1)) (dm.stopr (d := d) h rfl (j := 3) (by decide) rfl (c := 2) (by decide) (nI i)) ?_
  rw [show (stp (ak m H) (nI i) 2 3) = (nI (sp X (i + 1) 2)) from hI.stop h hc hi (by decide) (by decide) rfl]
  refine mw_if (P := (nI k) < (nI (sp X (i + 1) 2))) (a := 127) (b := 248) (fun _ => rfl) trivial (fun h9 => ?_) (fun h9 => ?_)
  · -- 127: (nI k) < (nI (sp X (i + 1) 2))
    have hkb : k < sp X (i + 1) 2 := (nI_ltI (by omega) (by omega)).mp h9
    refine mw_go mu_g183 (k := 3) (f1 := (134, [(3, .inl ((nI A) + 1)), (2, .inl (nI N)), (4, .inl (nI k)), (0, .inr (.inr (some 92))), (1, .inl (nI i))], [.inr (.inr (mu_r H 92 2))], H)) (C := [mu_is H (some 92) 12]) rfl (show mu_is H (some 92) 12 from h.1.is rfl) ?_
    rw [h.2.2.1]
    refine mw_go mu_g183 (k := 1) (f1 := (137, [(3, .inl ((nI A) + 1)), (2, .inl (nI N)), (4, .inl (nI k)), (0, .inr (.inr (some 92))), (1, .inl (nI i))], [.inr (.inr (mu_r H m 3))], H)) (C := [mu_is H (some m) 6]) rfl (show mu_is H (some m) 6 from (show mu_is H (some m) 6 from gi_im h.1 h.2.1)) ?_
    rw [(show mu_r H m 3 = some (m + 7) from (gi_mr h.1 h.2.1 (j := 3) (by decide)).trans (congrArg some (by omega)))]
    refine mw_go mu_g183 (k := 2) (f1 := (140, [(3, .inl ((nI A) + 1)), (2, .inl (nI N)), (4, .inl (nI k)), (0, .inr (.inr (some 92))), (1, .inl (nI i))], [.inl (1 : Int32), .inl (nI k), .inr (.inr (some (m + 7)))], H)) (C := []) rfl trivial ?_
    refine mw_cIe (fun _ => rfl) (show mu_is H (some (m + 7)) 10 from (h.1.w (md_w3 h.2.1)).1) (dm.getr (d := (d + 1)) h rfl (j := 3) (by decide) rfl (nI k) (c := 1) (by decide)) ?_
    rw [show (tget ((ak m H) 3) (nI k) 1) = ((X 3).2 k 1) from hI.c3 (by decide) (by omega)]
    refine mw_go mu_g183 (k := 1) (f1 := (144, [(3, .inl ((nI A) + 1)), (2, .inl (nI N)), (4, .inl (nI k)), (0, .inr (.inr (some 92))), (1, .inl (nI i))], [.inl (3 : Int32), .inl ((X 3).2 k 1)], H)) (C := []) rfl trivial ?_
    refine mw_if (P := ((X 3).2 k 1) = (3 : Int32)) (a := 147) (b := 242) (fun _ => rfl) trivial (fun h11 => ?_) (fun h11 => ?_)
    · -- 147: ((X 3).2 k 1) = (3 : Int32)
      have ty : ((ak m H) 3).2 k 1 = 3 := by rw [hI.2.2.2 3 (by decide) k 1 (by omega) (by omega) (by omega)]; exact h11
      obtain ⟨cc, hcc, ec4, ec3⟩ := hVM i (by rw [hI.n (by decide)]; exact hi) k (by rw [hI.2.2.spc (by decide)]; exact hk1) (by rw [hI.2.2.spc (by decide)]; exact hkb) ty
      have hcX : cc < (X 1).1 := by rw [← hI.n (j := 1) (by decide)]; exact hcc
      obtain ⟨-, lc2, lc3⟩ := hI.le h hc hcX (c := 1) (j := 2) (by decide) (by decide) rfl
      have hbb : sp (ak m H) (cc + 1) 1 - sp (ak m H) cc 1 ≤ 67108864 := by rw [hI.2.2.spc (by decide)]; omega
      refine mw_go mu_g183 (k := 2) (f1 := (151, [(3, .inl ((nI A) + 1)), (2, .inl (nI N)), (4, .inl (nI k)), (0, .inr (.inr (some 92))), (1, .inl (nI i))], [.inr (.inr (mu_r H 92 2))], H)) (C := [mu_is H (some 92) 12]) rfl (show mu_is H (some 92) 12 from h.1.is rfl) ?_
      rw [h.2.2.1]
      refine mw_go mu_g183 (k := 1) (f1 := (154, [(3, .inl ((nI A) + 1)), (2, .inl (nI N)), (4, .inl (nI k)), (0, .inr (.inr (some 92))), (1, .inl (nI i))], [.inr (.inr (mu_r H m 3))], H)) (C := [mu_is H (some m) 6]) rfl (show mu_is H (some m) 6 from (show mu_is H (some m) 6 from gi_im h.1 h.2.1)) ?_
      rw [(show mu_r H m 3 = some (m + 7) from (gi_mr h.1 h.2.1 (j := 3) (by decide)).trans (congrArg some (by omega)))]
      refine mw_go mu_g183 (k := 2) (f1 := (157, [(3, .inl ((nI A) + 1)), (2, .inl (nI N)), (4, .inl (nI k)), (0, .inr (.inr (some 92))), (1, .inl (nI i))], [.inl (4 : Int32), .inl (nI k), .inr (.inr (some (m + 7)))], H)) (C := []) rfl trivial ?_
      refine mw_cIe (fun _ => rfl) (show mu_is H (some (m + 7)) 10 from (h.1.w (md_w3 h.2.1)).1) (dm.getr (d := (d + 1)) h rfl (j := 3) (by decide) rfl (nI k) (c := 4) (by decide)) ?_
      rw [show (tget ((ak m H) 3) (nI k) 4) = (nI cc) from (tget_nI (by omega)).trans ec4]
      refine mw_go mu_g183 (k := 3) (f1 := (166, [(5, .inl (nI cc)), (3, .inl ((nI A) + 1)), (2, .inl (nI N)), (4, .inl (nI k)), (0, .inr (.inr (some 92))), (1, .inl (nI i))], [.inr (.inr (mu_r H 92 2))], H)) (C := [mu_is H (some 92) 12]) rfl (show mu_is H (some 92) 12 from h.1.is rfl) ?_
      rw [h.2.2.1]
      refine mw_go mu_g183 (k := 1) (f1 := (169, [(5, .inl (nI cc)), (3, .inl ((nI A) + 1)), (2, .inl (nI N)), (4, .inl (nI k)), (0, .inr (.inr (some 92))), (1, .inl (nI i))], [.inr (.inr (mu_r H m 1))], H)) (C := [mu_is H (some m) 6]) rfl (show mu_is H (some m) 6 from (show mu_is H (some m) 6 from gi_im h.1 h.2.1)) ?_
      rw [(show mu_r H m 1 = some (m + 3) from (gi_mr h.1 h.2.1 (j := 1) (by decide)).trans (congrArg some (by omega)))]
      refine mw_go mu_g183 (k := 2) (f1 := (173, [(5, .inl (nI cc)), (3, .inl ((nI A) + 1)), (2, .inl (nI N)), (4, .inl (nI k)), (0, .inr (.inr (some 92))), (1, .inl (nI i))], [.inl (8 : Int32), .inl (nI cc), .inr (.inr (some (m + 3)))], H)) (C := []) rfl trivial ?_
      refine mw_cIe (fun _ => rfl) (show mu_is H (some (m + 3)) 10 from (h.1.w (md_w1 h.2.1)).1) (dm.getr (d := (d + 1)) h rfl (j := 1) (by decide) rfl (nI cc) (c := 8) (by decide)) ?_
      rw [show (tget ((ak m H) 1) (nI cc) 8) = (((ak m H) 1).2 cc 8) from tget_nI (by omega)]
      refine mw_if (P := (((ak m H) 1).2 cc 8) = 0) (a := 179) (b := 181) (fun _ => rfl) trivial (fun h14 => ?_) (fun h14 => ?_)
      · -- 179: (((ak m H) 1).2 cc 8) = 0
        refine mw_go mu_g183 (k := 1) (f1 := (180, [(5, .inl (nI cc)), (3, .inl ((nI A) + 1)), (2, .inl (nI N)), (4, .inl (nI k)), (0, .inr (.inr (some 92))), (1, .inl (nI i))], [.inl (0 : Int32)], H)) (C := []) rfl trivial ?_
        exact mw_of (fun _ => mu_ret rfl (Or.inl rfl) ⟨_, H, rfl, Or.inl ⟨rfl, rfl⟩⟩)
      · -- 181: not (((ak m H) 1).2 cc 8) = 0
        obtain ⟨⟨ee, ee1, ee2, ee3⟩, -, ii, ii1, ii2, ii3⟩ := (hRK cc hcc).resolve_left h14
        have ew := wv_mod ty ec3 ec4 ee1 (by omega) (by omega) (by omega)
        have ej := wj_mod ty ec4 ii1 (by omega) (by omega)
        have hdc : ¬ ((ak m H) 1).2 (((ak m H) 3).2 k 4).toNatClampNeg 8 = 0 := by rw [ec4, nI_clamp (by omega)]; exact h14
        refine mw_go mu_g183 (k := 3) (f1 := (186, [(5, .inl (nI cc)), (3, .inl ((nI A) + 1)), (2, .inl (nI N)), (4, .inl (nI k)), (0, .inr (.inr (some 92))), (1, .inl (nI i))], [.inr (.inr (mu_r H 92 2)), .inl (nI N)], H)) (C := [mu_is H (some 92) 12]) rfl (show mu_is H (some 92) 12 from h.1.is rfl) ?_
        rw [h.2.2.1]
        refine mw_go mu_g183 (k := 1) (f1 := (189, [(5, .inl (nI cc)), (3, .inl ((nI A) + 1)), (2, .inl (nI N)), (4, .inl (nI k)), (0, .inr (.inr (some 92))), (1, .inl (nI i))], [.inr (.inr (mu_r H m 1)), .inl (nI N)], H)) (C := [mu_is H (some m) 6]) rfl (show mu_is H (some m) 6 from (show mu_is H (some m) 6 from gi_im h.1 h.2.1)) ?_
        rw [(show mu_r H m 1 = some (m + 3) from (gi_mr h.1 h.2.1 (j := 1) (by decide)).trans (congrArg some (by omega)))]
        refine mw_go mu_g183 (k := 2) (f1 := (193, [(5, .inl (nI cc)), (3, .inl ((nI A) + 1)), (2, .inl (nI N)), (4, .inl (nI k)), (0, .inr (.inr (some 92))), (1, .inl (nI i))], [.inl (9 : Int32), .inl (nI cc), .inr (.inr (some (m + 3))), .inl (nI N)], H)) (C := []) rfl trivial ?_
        refine mw_cIe (fun _ => rfl) (show mu_is H (some (m + 3)) 10 from (h.1.w (md_w1 h.2.1)).1) (dm.getr (d := (d + 1)) h rfl (j := 1) (by decide) rfl (nI cc) (c := 9) (by decide)) ?_
        rw [show (tget ((ak m H) 1) (nI cc) 9) = (nI ii) from (tget_nI (by omega)).trans ii1]
        refine mw_go mu_g183 (k := 2) (f1 := (200, [(5, .inl (nI cc)), (3, .inl ((nI A) + 1)), (2, .inl (nI N)), (4, .inl (nI k)), (0, .inr (.inr (some 92))), (1, .inl (nI i))], [.inl (201 : Int32), .inl ((nI N) + (nI ii))], H)) (C := []) rfl trivial ?_
        refine mw_cIe (fun _ => rfl) trivial (mu_min_ok (d := (d + 1)) ((nI N) + (nI ii)) (201 : Int32)) ?_
        refine mw_go mu_g183 (k := 4) (f1 := (209, [(2, .inl (mu_min ((nI N) + (nI ii)) (201 : Int32))), (5, .inl (nI cc)), (3, .inl ((nI A) + 1)), (4, .inl (nI k)), (0, .inr (.inr (some 92))), (1, .inl (nI i))], [.inr (.inr (mu_r H 92 2)), .inl ((nI A) + 1)], H)) (C := [mu_is H (some 92) 12]) rfl (show mu_is H (some 92) 12 from h.1.is rfl) ?_
        rw [h.2.2.1]
        refine mw_go mu_g183 (k := 1) (f1 := (212, [(2, .inl (mu_min ((nI N) + (nI ii)) (201 : Int32))), (5, .inl (nI cc)), (3, .inl ((nI A) + 1)), (4, .inl (nI k)), (0, .inr (.inr (some 92))), (1, .inl (nI i))], [.inr (.inr (mu_r H m 3)), .inl ((nI A) + 1)], H)) (C := [mu_is H (some m) 6]) rfl (show mu_is H (some m) 6 from (show mu_is H (some m) 6 from gi_im h.1 h.2.1)) ?_
        rw [(show mu_r H m 3 = some (m + 7) from (gi_mr h.1 h.2.1 (j := 3) (by decide)).trans (congrArg some (by omega)))]
        refine mw_go mu_g183 (k := 2) (f1 := (215, [(2, .inl (mu_min ((nI N) + (nI ii)) (201 : Int32))), (5, .inl (nI cc)), (3, .inl ((nI A) + 1)), (4, .inl (nI k)), (0, .inr (.inr (some 92))), (1, .inl (nI i))], [.inl (3 : Int32), .inl (nI k), .inr (.inr (some (m + 7))), .inl ((nI A) + 1)], H)) (C := []) rfl trivial ?_
        refine mw_cIe (fun _ => rfl) (show mu_is H (some (m + 7)) 10 from (h.1.w (md_w3 h.2.1)).1) (dm.getr (d := (d + 1)) h rfl (j := 3) (by decide) rfl (nI k) (c := 3) (by decide)) ?_
        rw [show (tget ((ak m H) 3) (nI k) 3) = (nI (sp (ak m H) (cc + 1) 1 - sp (ak m H) cc 1)) from (tget_nI (by omega)).trans ec3]
        refine mw_go mu_g183 (k := 2) (f1 := (222, [(2, .inl (mu_min ((nI N) + (nI ii)) (201 : Int32))), (5, .inl (nI cc)), (3, .inl ((nI A) + 1)), (4, .inl (nI k)), (0, .inr (.inr (some 92))), (1, .inl (nI i))], [.inr (.inr (mu_r H 92 2)), .inl (nI (sp (ak m H) (cc + 1) 1 - sp (ak m H) cc 1)), .inl ((nI A) + 1)], H)) (C := [mu_is H (some 92) 12]) rfl (show mu_is H (some 92) 12 from h.1.is rfl) ?_
        rw [h.2.2.1]
        refine mw_go mu_g183 (k := 1) (f1 := (225, [(2, .inl (mu_min ((nI N) + (nI ii)) (201 : Int32))), (5, .inl (nI cc)), (3, .inl ((nI A) + 1)), (4, .inl (nI k)), (0, .inr (.inr (some 92))), (1, .inl (nI i))], [.inr (.inr (mu_r H m 1)), .inl (nI (sp (ak m H) (cc + 1) 1 - sp (ak m H) cc 1)), .inl ((nI A) + 1)], H)) (C := [mu_is H (some m) 6]) rfl (show mu_is H (some m) 6 from (show mu_is H (some m) 6 from gi_im h.1 h.2.1)) ?_
        rw [(show mu_r H m 1 = some (m + 3) from (gi_mr h.1 h.2.1 (j := 1) (by decide)).trans (congrArg some (by omega)))]
        refine mw_go mu_g183 (k := 2) (f1 := (229, [(2, .inl (mu_min ((nI N) + (nI ii)) (201 : Int32))), (5, .inl (nI cc)), (3, .inl ((nI A) + 1)), (4, .inl (nI k)), (0, .inr (.inr (some 92))), (1, .inl (nI i))], [.inl (10 : Int32), .inl (nI cc), .inr (.inr (some (m + 3))), .inl (nI (sp (ak m H) (cc + 1) 1 - sp (ak m H) cc 1)), .inl ((nI A) + 1)], H)) (C := []) rfl trivial ?_
        refine mw_cIe (fun _ => rfl) (show mu_is H (some (m + 3)) 10 from (h.1.w (md_w1 h.2.1)).1) (dm.getr (d := (d + 1)) h rfl (j := 1) (by decide) rfl (nI cc) (c := 10) (by decide)) ?_
        rw [show (tget ((ak m H) 1) (nI cc) 10) = (nI ee) from (tget_nI (by omega)).trans ee1]
        refine mw_go mu_g183 (k := 5) (f1 := (238, [(3, .inl (((nI A) + 1) + ((nI (sp (ak m H) (cc + 1) 1 - sp (ak m H) cc 1)) + (nI ee)))), (2, .inl (mu_min ((nI N) + (nI ii)) (201 : Int32))), (5, .inl (nI cc)), (4, .inl (nI k)), (0, .inr (.inr (some 92))), (1, .inl (nI i))], [.inl (131072 : Int32), .inl (((nI A) + 1) + ((nI (sp (ak m H) (cc + 1) 1 - sp (ak m H) cc 1)) + (nI ee)))], H)) (C := []) rfl trivial ?_
        refine mw_cIe (fun _ => rfl) trivial (mu_min_ok (d := (d + 1)) (((nI A) + 1) + ((nI (sp (ak m H) (cc + 1) 1 - sp (ak m H) cc 1)) + (nI ee))) (131072 : Int32)) ?_
        refine mw_go mu_g183 (k := 3) (f1 := (106, [(4, .inl ((nI k) + 1)), (3, .inl (mu_min (((nI A) + 1) + ((nI (sp (ak m H) (cc + 1) 1 - sp (ak m H) cc 1)) + (nI ee))) (131072 : Int32))), (2, .inl (mu_min ((nI N) + (nI ii)) (201 : Int32))), (5, .inl (nI cc)), (0, .inr (.inr (some 92))), (1, .inl (nI i))], [], H)) (C := []) rfl trivial ?_
        rw [show mu_min ((nI N) + (nI ii)) (201 : Int32) = nI (min (N + ii) 201) from by rw [nI_add]; exact jg_minN (by omega) (by decide)]
        rw [nI_1 A, nI_add, nI_add, show mu_min (nI (A + 1 + ((sp (ak m H) (cc + 1) 1 - sp (ak m H) cc 1) + ee))) (131072 : Int32) = nI (min (A + 1 + ((sp (ak m H) (cc + 1) 1 - sp (ak m H) cc 1) + ee)) 131072) from jg_minN (by omega) (by decide)]
        rw [nI_1 k]
        exact mw_sub (by simp) (ih (min (N + ii) 201, min (A + 1 + ((sp (ak m H) (cc + 1) 1 - sp (ak m H) cc 1) + ee)) 131072, k + 1) ⟨(show sp X i 2 ≤ (k + 1) from by omega), (show (k + 1) ≤ sp X (i + 1) 2 from by omega), (show min 131072 ((sp X (i + 1) 3 - sp X i 3) + (sp X (i + 1) 4 - sp X i 4) + (sp X (i + 1) 5 - sp X i 5) + ws (ak m H) (sp X i 2) ((k + 1) - sp X i 2)) ≤ (min (A + 1 + ((sp (ak m H) (cc + 1) 1 - sp (ak m H) cc 1) + ee)) 131072) from (by rw [ws_step hk1, ew]; omega)), (show (min (A + 1 + ((sp (ak m H) (cc + 1) 1 - sp (ak m H) cc 1) + ee)) 131072) ≤ 201457664 + ((k + 1) - sp X i 2) from by omega), (show kid (ak m H) i (k + 1) from (fun v q1 q2 q3 => by by_cases hvk : v < k; exact hdn v q1 hvk q3; have hve : v = k := (by omega); subst hve; exact hdc)), (show min 201 (1 + sm (wj (ak m H)) (sp X i 2) ((k + 1) - sp X i 2)) ≤ (min (N + ii) 201) from (by rw [sm_step hk1, ej]; omega)), (show (min (N + ii) 201) ≤ 201 from by omega)⟩ (by show sp X (i + 1) 2 - (k + 1) < sp X (i + 1) 2 - k; omega))
    · -- 242: not ((X 3).2 k 1) = (3 : Int32)
      have ty : ¬ ((ak m H) 3).2 k 1 = 3 := by rw [hI.2.2.2 3 (by decide) k 1 (by omega) (by omega) (by omega)]; exact h11
      have ew := wv_plain ty
      have ej := wj_plain ty
      refine mw_go mu_g183 (k := 2) (f1 := (106, [(4, .inl ((nI k) + 1)), (3, .inl ((nI A) + 1)), (2, .inl (nI N)), (0, .inr (.inr (some 92))), (1, .inl (nI i))], [], H)) (C := []) rfl trivial ?_
      rw [nI_1 A]
      rw [nI_1 k]
      exact mw_sub (by simp) (ih (N, A + 1, k + 1) ⟨(show sp X i 2 ≤ (k + 1) from by omega), (show (k + 1) ≤ sp X (i + 1) 2 from by omega), (show min 131072 ((sp X (i + 1) 3 - sp X i 3) + (sp X (i + 1) 4 - sp X i 4) + (sp X (i + 1) 5 - sp X i 5) + ws (ak m H) (sp X i 2) ((k + 1) - sp X i 2)) ≤ (A + 1) from (by rw [ws_step hk1, ew]; omega)), (show (A + 1) ≤ 201457664 + ((k + 1) - sp X i 2) from by omega), (show kid (ak m H) i (k + 1) from (fun v q1 q2 q3 => by by_cases hvk : v < k; exact hdn v q1 hvk q3; have hve : v = k := (by omega); subst hve; exact absurd q3 ty)), (show min 201 (1 + sm (wj (ak m H)) (sp X i 2) ((k + 1) - sp X i 2)) ≤ N from (by rw [sm_step hk1, ej]; omega)), (show N ≤ 201 from by omega)⟩ (by show sp X (i + 1) 2 - (k + 1) < sp X (i + 1) 2 - k; omega))
  · -- 248: not (nI k) < (nI (sp X (i + 1) 2))
    have hkb : ¬ k < sp X (i + 1) 2 := fun z => h9 (nI_lt z (by omega))
    refine mw_go mu_g183 (k := 2) (f1 := (252, [(2, .inl (nI N)), (3, .inl (nI A)), (4, .inl (nI k)), (0, .inr (.inr (some 92))), (1, .inl (nI i))], [.inr (.inr (mu_r H 92 2))], H)) (C := [mu_is H (some 92) 12]) rfl (show mu_is H (some 92) 12 from h.1.is rfl) ?_
    rw [h.2.2.1]
    refine mw_go mu_g183 (k := 1) (f1 := (255, [(2, .inl (nI N)), (3, .inl (nI A)), (4, .inl (nI k)), (0, .inr (.inr (some 92))), (1, .inl (nI i))], [.inr (.inr (mu_r H m 1))], H)) (C := [mu_is H (some m) 6]) rfl (show mu_is H (some m) 6 from (show mu_is H (some m) 6 from gi_im h.1 h.2.1)) ?_
    rw [(show mu_r H m 1 = some (m + 3) from (gi_mr h.1 h.2.1 (j := 1) (by decide)).trans (congrArg some (by omega)))]
    refine mw_go mu_g183 (k := 3) (f1 := (259, [(2, .inl (nI N)), (3, .inl (nI A)), (4, .inl (nI k)), (0, .inr (.inr (some 92))), (1, .inl (nI i))], [.inl (1 : Int32), .inl (8 : Int32), .inl (nI i), .inr (.inr (some (m + 3)))], H)) (C := []) rfl trivial ?_
    refine mw_cV (fun _ => rfl) (show mu_is H (some (m + 3)) 10 from (h.1.w (md_w1 h.2.1)).1) (dm.setr (C := C) (d := (d + 1)) h rfl (j := 1) (by decide) rfl (nI i) (1 : Int32) (c := 8) (by decide)) (fun H20 q20 => ?_)
    obtain ⟨hp20, qt20, ha20, qh20⟩ := q20
    have ht20 := (rl.refl m C H).trans qt20
    have ha20 : ak m H20 = (ax 1 (ak m H) (nI i) 8 (1 : Int32)) := ha20
    have hI20 : SI m X H20 := hI.set qh20 (by rw [ha20]; exact ax_ne (by decide)) (by rw [ha20]; exact eqc_ax1 (by decide))
    refine mw_go mu_g183 (k := 2) (f1 := (266, [(2, .inl (nI N)), (3, .inl (nI A)), (4, .inl (nI k)), (0, .inr (.inr (some 92))), (1, .inl (nI i))], [.inr (.inr (mu_r H20 92 2))], H20)) (C := [mu_is H20 (some 92) 12]) rfl (show mu_is H20 (some 92) 12 from hp20.1.is rfl) ?_
    rw [hp20.2.2.1]
    refine mw_go mu_g183 (k := 1) (f1 := (269, [(2, .inl (nI N)), (3, .inl (nI A)), (4, .inl (nI k)), (0, .inr (.inr (some 92))), (1, .inl (nI i))], [.inr (.inr (mu_r H20 m 1))], H20)) (C := [mu_is H20 (some m) 6]) rfl (show mu_is H20 (some m) 6 from (show mu_is H20 (some m) 6 from gi_im hp20.1 hp20.2.1)) ?_
    rw [(show mu_r H20 m 1 = some (m + 3) from (gi_mr hp20.1 hp20.2.1 (j := 1) (by decide)).trans (congrArg some (by omega)))]
    refine mw_go mu_g183 (k := 3) (f1 := (273, [(2, .inl (nI N)), (3, .inl (nI A)), (4, .inl (nI k)), (0, .inr (.inr (some 92))), (1, .inl (nI i))], [.inl (nI N), .inl (9 : Int32), .inl (nI i), .inr (.inr (some (m + 3)))], H20)) (C := []) rfl trivial ?_
    refine mw_cV (fun _ => rfl) (show mu_is H20 (some (m + 3)) 10 from (hp20.1.w (md_w1 hp20.2.1)).1) (dm.setr (C := C) (d := (d + 1)) hp20 rfl (j := 1) (by decide) rfl (nI i) (nI N) (c := 9) (by decide)) (fun H21 q21 => ?_)
    obtain ⟨hp21, qt21, ha21, qh21⟩ := q21
    have ht21 := ht20.trans qt21
    have ha21 : ak m H21 = (ax 1 (ak m H20) (nI i) 9 (nI N)) := ha21
    have hI21 : SI m X H21 := hI20.set qh21 (by rw [ha21]; exact ax_ne (by decide)) (by rw [ha21]; exact eqc_ax1 (by decide))
    refine mw_go mu_g183 (k := 2) (f1 := (280, [(2, .inl (nI N)), (3, .inl (nI A)), (4, .inl (nI k)), (0, .inr (.inr (some 92))), (1, .inl (nI i))], [.inr (.inr (mu_r H21 92 2))], H21)) (C := [mu_is H21 (some 92) 12]) rfl (show mu_is H21 (some 92) 12 from hp21.1.is rfl) ?_
    rw [hp21.2.2.1]
    refine mw_go mu_g183 (k := 1) (f1 := (283, [(2, .inl (nI N)), (3, .inl (nI A)), (4, .inl (nI k)), (0, .inr (.inr (some 92))), (1, .inl (nI i))], [.inr (.inr (mu_r H21 m 1))], H21)) (C := [mu_is H21 (some m) 6]) rfl (show mu_is H21 (some m) 6 from (show mu_is H21 (some m) 6 from gi_im hp21.1 hp21.2.1)) ?_
    rw [(show mu_r H21 m 1 = some (m + 3) from (gi_mr hp21.1 hp21.2.1 (j := 1) (by decide)).trans (congrArg some (by omega)))]
    refine mw_go mu_g183 (k := 3) (f1 := (287, [(2, .inl (nI N)), (3, .inl (nI A)), (4, .inl (nI k)), (0, .inr (.inr (some 92))), (1, .inl (nI i))], [.inl (nI A), .inl (10 : Int32), .inl (nI i), .inr (.inr (some (m + 3)))], H21)) (C := []) rfl trivial ?_
    refine mw_cV (fun _ => rfl) (show mu_is H21 (some (m + 3)) 10 from (hp21.1.w (md_w1 hp21.2.1)).1) (dm.setr (C := C) (d := (d + 1)) hp21 rfl (j := 1) (by decide) rfl (nI i) (nI A) (c := 10) (by decide)) (fun H22 q22 => ?_)
    obtain ⟨hp22, qt22, ha22, qh22⟩ := q22
    have ht22 := ht21.trans qt22
    have ha22 : ak m H22 = (ax 1 (ak m H21) (nI i) 10 (nI A)) := ha22
    have hI22 : SI m X H22 := hI21.set qh22 (by rw [ha22]; exact ax_ne (by decide)) (by rw [ha22]; exact eqc_ax1 (by decide))
    refine mw_go mu_g183 (k := 1) (f1 := (291, [(2, .inl (nI N)), (3, .inl (nI A)), (4, .inl (nI k)), (0, .inr (.inr (some 92))), (1, .inl (nI i))], [.inl (1 : Int32)], H22)) (C := []) rfl trivial ?_
    have hke : k = sp X (i + 1) 2 := by omega
    have hiM : i < ((ak m H) 1).1 := by rw [hI.n (by decide)]; exact hi
    have eS : ak m H22 = ax 1 (ax 1 (ax 1 (ak m H) (nI i) 8 (1 : Int32)) (nI i) 9 (nI N)) (nI i) 10 (nI A) := by rw [ha22, ha21, ha20]
    have eJ : ∀ j, j ≠ 1 → ak m H22 j = ak m H j := fun j hj => by rw [eS, ax_ne hj, ax_ne hj, ax_ne hj]
    have eR : ∀ q c, q ≠ i → (ak m H22 1).2 q c = (ak m H 1).2 q c := fun q c hq => by rw [eS, ax_c (fun _ z => absurd (z.trans (nI_clamp (by omega))) hq), ax_c (fun _ z => absurd (z.trans (nI_clamp (by omega))) hq), ax_c (fun _ z => absurd (z.trans (nI_clamp (by omega))) hq)]
    have e8 : (ak m H22 1).2 i 8 = 1 := by rw [eS, ax_c (fun _ _ => by decide), ax_c (fun _ _ => by decide)]; exact ax_hit hiM (by decide) (by omega)
    have e10 : (ak m H22 1).2 i 10 = nI A := by rw [eS]; exact ax_hit (by rw [ax_n, ax_n]; exact hiM) (by decide) (by omega)
    have e9 : (ak m H22 1).2 i 9 = nI N := by rw [eS, ax_c (fun _ _ => by decide)]; exact ax_hit (by rw [ax_n]; exact hiM) (by decide) (by omega)
    have hq := hI.eqq hI22
    have hN3 : min 201 (1 + sm (wj (ak m H)) (sp (ak m H) i 2) (sp (ak m H) (i + 1) 2 - sp (ak m H) i 2)) ≤ N := by rw [hI.2.2.spc (by decide), hI.2.2.spc (by decide), ← hke]; exact hN
    have hT : min 131072 (tot (ak m H) i) ≤ A := by
      unfold tot
      rw [hI.2.2.spc (by decide), hI.2.2.spc (by decide), hI.2.2.spc (by decide), hI.2.2.spc (by decide), hI.2.2.spc (by decide), hI.2.2.spc (by decide), hI.2.2.spc (by decide), hI.2.2.spc (by decide)]
      rw [hke] at hA
      exact hA
    refine mw_of (fun _ => mu_ret rfl (Or.inr rfl) ⟨_, H22, rfl, Or.inr ⟨rfl, hp22, ht22, hI22, ?_, ?_, eJ, ?_⟩⟩)
    · exact hRK.up hVM hq eJ eR hD (by rw [hI.n (by decide)]; exact hM) ⟨A, e10, by omega, hT⟩ (by rw [hI.2.2.spc (by decide), ← hke]; exact hdn) ⟨N, e9, hN2, hN3⟩
    · exact hVM.keep hq (fun v => by rw [eJ 3 (by decide)])
    · rw [cnt_up (s := (ak m H)) (i := i) hD (by rw [e8]; decide) (fun q hq => eR q 8 hq), if_pos hi]
theorem so_ends2 (h : dm m H) (hI : SI m X H) (hc : CT X) (hVM : VMs (ak m H)) (hRK : RKs (ak m H)) (hC0 : cnt (ak m H) (X 1).1 = 0) : mu_TI (mu_D (d + 4)) 182 [.inr (.inr (some 92))] H (fun x H1 => (x = 0 ∨ x = 1) ∧ dm m H1 ∧ rl m C H H1 ∧ SI m X H1 ∧ VMs (ak m H1) ∧ (∀ j, j ≠ 1 → ak m H1 j = ak m H j) ∧ (x = 1 → RKs (ak m H1) ∧ ∀ k, k < (X 1).1 → ¬ (ak m H1 1).2 k 8 = 0)) := by
  have hM : (X 1).1 ≤ 67108864 := by rw [← hI.n (j := 1) (by decide)]; exact h.lt rfl (by decide)
  refine mu_meth (M := mu_m182) rfl rfl ?_
  refine mw_ht (mu_fn_of (show [0].Nodup by decide)) ?_
  refine mw_go mu_g182 (k := 4) (f1 := (4, [(2, .inl (0 : Int32)), (1, .inl (0 : Int32)), (0, .inr (.inr (some 92)))], [], H)) (C := []) rfl trivial ?_
  show mu_W _ _ (4, [(2, .inl (nI 0)), (1, .inl (nI 0)), (0, .inr (.inr (some 92)))], [], H) _
  refine mw_sub (L' := [(1, .inl (nI 0)), (2, .inl (nI 0)), (0, .inr (.inr (some 92)))]) (by simp) ?_
  refine mw_down (α := Nat × Nat × mu_H) (fun zs => (4, [(1, .inl (nI zs.1)), (2, .inl (nI zs.2.1)), (0, .inr (.inr (some 92)))], [], zs.2.2)) (fun zs => (X 1).1 - zs.2.1) (fun zs => dm m zs.2.2 ∧ rl m C H zs.2.2 ∧ (zs.2.1 ≤ (X 1).1) ∧ (SI m X zs.2.2) ∧ (VMs (ak m zs.2.2)) ∧ (RKs (ak m zs.2.2)) ∧ (∀ j, j ≠ 1 → ak m zs.2.2 j = ak m H j) ∧ (zs.1 = cnt (ak m zs.2.2) (X 1).1)) (fun zs hza iha => ?_) (0, 0, H) ⟨h, (rl.refl m C H), (show 0 ≤ (X 1).1 from by omega), (show SI m X H from hI), (show VMs (ak m H) from hVM), (show RKs (ak m H) from hRK), (show ∀ j, j ≠ 1 → ak m H j = ak m H j from (fun _ _ => rfl)), (show 0 = cnt (ak m H) (X 1).1 from hC0.symm)⟩
  obtain ⟨dn, y, Hsa⟩ := zs
  obtain ⟨hpa, hta, hv1, hIs, hVs, hRs, hJs, hdn⟩ := hza
  have hpa : dm m Hsa := hpa
  have hta : rl m C H Hsa := hta
  have hv1 : y ≤ (X 1).1 := hv1
  have hIs : SI m X Hsa := hIs
  have hVs : VMs (ak m Hsa) := hVs
  have hRs : RKs (ak m Hsa) := hRs
  have hJs : ∀ j, j ≠ 1 → ak m Hsa j = ak m H j := hJs
  have hdn : dn = cnt (ak m Hsa) (X 1).1 := hdn
  show mu_W _ _ (4, [(1, .inl (nI dn)), (2, .inl (nI y)), (0, .inr (.inr (some 92)))], [], Hsa) _
  have hcn := cnt_le (s := ak m Hsa) (X 1).1
  refine mw_go mu_g182 (k := 3) (f1 := (9, [(1, .inl (nI dn)), (2, .inl (nI y)), (0, .inr (.inr (some 92)))], [.inr (.inr (mu_r Hsa 92 2)), .inl (nI y)], Hsa)) (C := [mu_is Hsa (some 92) 12]) rfl (show mu_is Hsa (some 92) 12 from hpa.1.is rfl) ?_
  rw [hpa.2.2.1]
  refine mw_go mu_g182 (k := 1) (f1 := (12, [(1, .inl (nI dn)), (2, .inl (nI y)), (0, .inr (.inr (some 92)))], [.inr (.inr (mu_r Hsa m 1)), .inl (nI y)], Hsa)) (C := [mu_is Hsa (some m) 6]) rfl (show mu_is Hsa (some m) 6 from (show mu_is Hsa (some m) 6 from gi_im hpa.1 hpa.2.1)) ?_
  rw [(show mu_r Hsa m 1 = some (m + 3) from (gi_mr hpa.1 hpa.2.1 (j := 1) (by decide)).trans (congrArg some (by omega)))]
  refine mw_go mu_g182 (k := 1) (f1 := (15, [(1, .inl (nI dn)), (2, .inl (nI y)), (0, .inr (.inr (some 92)))], [.inl (mu_i Hsa (m + 3) 2), .inl (nI y)], Hsa)) (C := [mu_is Hsa (some (m + 3)) 10]) rfl (show mu_is Hsa (some (m + 3)) 10 from (hpa.1.w (md_w1 hpa.2.1)).1) ?_
  rw [(show mu_i Hsa (m + 3) 2 = nI ((ak m Hsa) 1).1 from hpa.size rfl (j := 1) (by decide))]
  refine mw_if (P := (nI y) < (nI ((ak m Hsa) 1).1)) (a := 18) (b := 87) (fun _ => rfl) trivial (fun h1 => ?_) (fun h1 => ?_)
  · -- 18: (nI y) < (nI ((ak m Hsa) 1).1)
    rw [hIs.n (j := 1) (by decide)] at h1
    have hyM : y < (X 1).1 := (nI_ltI (by omega) (by omega)).mp h1
    refine mw_go mu_g182 (k := 3) (f1 := (23, [(1, .inl (nI dn)), (2, .inl (nI y)), (0, .inr (.inr (some 92)))], [.inr (.inr (mu_r Hsa 92 2)), .inl (nI dn)], Hsa)) (C := [mu_is Hsa (some 92) 12]) rfl (show mu_is Hsa (some 92) 12 from hpa.1.is rfl) ?_
    rw [hpa.2.2.1]
    refine mw_go mu_g182 (k := 1) (f1 := (26, [(1, .inl (nI dn)), (2, .inl (nI y)), (0, .inr (.inr (some 92)))], [.inr (.inr (mu_r Hsa m 1)), .inl (nI dn)], Hsa)) (C := [mu_is Hsa (some m) 6]) rfl (show mu_is Hsa (some m) 6 from (show mu_is Hsa (some m) 6 from gi_im hpa.1 hpa.2.1)) ?_
    rw [(show mu_r Hsa m 1 = some (m + 3) from (gi_mr hpa.1 hpa.2.1 (j := 1) (by decide)).trans (congrArg some (by omega)))]
    refine mw_go mu_g182 (k := 1) (f1 := (29, [(1, .inl (nI dn)), (2, .inl (nI y)), (0, .inr (.inr (some 92)))], [.inl (mu_i Hsa (m + 3) 2), .inl (nI dn)], Hsa)) (C := [mu_is Hsa (some (m + 3)) 10]) rfl (show mu_is Hsa (some (m + 3)) 10 from (hpa.1.w (md_w1 hpa.2.1)).1) ?_
    rw [(show mu_i Hsa (m + 3) 2 = nI ((ak m Hsa) 1).1 from hpa.size rfl (j := 1) (by decide))]
    refine mw_if (P := (nI dn) < (nI ((ak m Hsa) 1).1)) (a := 32) (b := 87) (fun _ => rfl) trivial (fun h2 => ?_) (fun h2 => ?_)
    · -- 32: (nI dn) < (nI ((ak m Hsa) 1).1)
      refine mw_go mu_g182 (k := 2) (f1 := (34, [(3, .inl (0 : Int32)), (1, .inl (nI dn)), (2, .inl (nI y)), (0, .inr (.inr (some 92)))], [], Hsa)) (C := []) rfl trivial ?_
      show mu_W _ _ (34, [(3, .inl (nI 0)), (1, .inl (nI dn)), (2, .inl (nI y)), (0, .inr (.inr (some 92)))], [], Hsa) _
      refine mw_sub (L' := [(1, .inl (nI dn)), (3, .inl (nI 0)), (0, .inr (.inr (some 92))), (2, .inl (nI y))]) (by simp) ?_
      refine mw_down (α := Nat × Nat × mu_H) (fun zs => (34, [(1, .inl (nI zs.1)), (3, .inl (nI zs.2.1)), (0, .inr (.inr (some 92))), (2, .inl (nI y))], [], zs.2.2)) (fun zs => (X 1).1 - zs.2.1) (fun zs => dm m zs.2.2 ∧ rl m C H zs.2.2 ∧ (zs.2.1 ≤ (X 1).1) ∧ (SI m X zs.2.2) ∧ (VMs (ak m zs.2.2)) ∧ (RKs (ak m zs.2.2)) ∧ (∀ j, j ≠ 1 → ak m zs.2.2 j = ak m H j) ∧ (zs.1 = cnt (ak m zs.2.2) (X 1).1)) (fun zs hzb ihb => ?_) (dn, 0, Hsa) ⟨hpa, hta, (show 0 ≤ (X 1).1 from by omega), (show SI m X Hsa from hIs), (show VMs (ak m Hsa) from hVs), (show RKs (ak m Hsa) from hRs), (show ∀ j, j ≠ 1 → ak m Hsa j = ak m H j from hJs), (show dn = cnt (ak m Hsa) (X 1).1 from hdn)⟩
      obtain ⟨dn, z, Hsb⟩ := zs
      obtain ⟨hpb, htb, hv1, hIs, hVs, hRs, hJs, hdn⟩ := hzb
      have hpb : dm m Hsb := hpb
      have htb : rl m C H Hsb := htb
      have hv1 : z ≤ (X 1).1 := hv1
      have hIs : SI m X Hsb := hIs
      have hVs : VMs (ak m Hsb) := hVs
      have hRs : RKs (ak m Hsb) := hRs
      have hJs : ∀ j, j ≠ 1 → ak m Hsb j = ak m H j := hJs
      have hdn : dn = cnt (ak m Hsb) (X 1).1 := hdn
      show mu_W _ _ (34, [(1, .inl (nI dn)), (3, .inl (nI z)), (0, .inr (.inr (some 92))), (2, .inl (nI y))], [], Hsb) _
      have hcn := cnt_le (s := ak m Hsb) (X 1).1
      refine mw_go mu_g182 (k := 3) (f1 := (39, [(1, .inl (nI dn)), (3, .inl (nI z)), (0, .inr (.inr (some 92))), (2, .inl (nI y))], [.inr (.inr (mu_r Hsb 92 2)), .inl (nI z)], Hsb)) (C := [mu_is Hsb (some 92) 12]) rfl (show mu_is Hsb (some 92) 12 from hpb.1.is rfl) ?_
      rw [hpb.2.2.1]
      refine mw_go mu_g182 (k := 1) (f1 := (42, [(1, .inl (nI dn)), (3, .inl (nI z)), (0, .inr (.inr (some 92))), (2, .inl (nI y))], [.inr (.inr (mu_r Hsb m 1)), .inl (nI z)], Hsb)) (C := [mu_is Hsb (some m) 6]) rfl (show mu_is Hsb (some m) 6 from (show mu_is Hsb (some m) 6 from gi_im hpb.1 hpb.2.1)) ?_
      rw [(show mu_r Hsb m 1 = some (m + 3) from (gi_mr hpb.1 hpb.2.1 (j := 1) (by decide)).trans (congrArg some (by omega)))]
      refine mw_go mu_g182 (k := 1) (f1 := (45, [(1, .inl (nI dn)), (3, .inl (nI z)), (0, .inr (.inr (some 92))), (2, .inl (nI y))], [.inl (mu_i Hsb (m + 3) 2), .inl (nI z)], Hsb)) (C := [mu_is Hsb (some (m + 3)) 10]) rfl (show mu_is Hsb (some (m + 3)) 10 from (hpb.1.w (md_w1 hpb.2.1)).1) ?_
      rw [(show mu_i Hsb (m + 3) 2 = nI ((ak m Hsb) 1).1 from hpb.size rfl (j := 1) (by decide))]
      refine mw_if (P := (nI z) < (nI ((ak m Hsb) 1).1)) (a := 48) (b := 81) (fun _ => rfl) trivial (fun h3 => ?_) (fun h3 => ?_)
      · -- 48: (nI z) < (nI ((ak m Hsb) 1).1)
        rw [hIs.n (j := 1) (by decide)] at h3
        have hzM : z < (X 1).1 := (nI_ltI (by omega) (by omega)).mp h3
        refine mw_go mu_g182 (k := 2) (f1 := (52, [(1, .inl (nI dn)), (3, .inl (nI z)), (0, .inr (.inr (some 92))), (2, .inl (nI y))], [.inr (.inr (mu_r Hsb 92 2))], Hsb)) (C := [mu_is Hsb (some 92) 12]) rfl (show mu_is Hsb (some 92) 12 from hpb.1.is rfl) ?_
        rw [hpb.2.2.1]
        refine mw_go mu_g182 (k := 1) (f1 := (55, [(1, .inl (nI dn)), (3, .inl (nI z)), (0, .inr (.inr (some 92))), (2, .inl (nI y))], [.inr (.inr (mu_r Hsb m 1))], Hsb)) (C := [mu_is Hsb (some m) 6]) rfl (show mu_is Hsb (some m) 6 from (show mu_is Hsb (some m) 6 from gi_im hpb.1 hpb.2.1)) ?_
        rw [(show mu_r Hsb m 1 = some (m + 3) from (gi_mr hpb.1 hpb.2.1 (j := 1) (by decide)).trans (congrArg some (by omega)))]
        refine mw_go mu_g182 (k := 2) (f1 := (58, [(1, .inl (nI dn)), (3, .inl (nI z)), (0, .inr (.inr (some 92))), (2, .inl (nI y))], [.inl (8 : Int32), .inl (nI z), .inr (.inr (some (m + 3)))], Hsb)) (C := []) rfl trivial ?_
        refine mw_cIe (fun _ => rfl) (show mu_is Hsb (some (m + 3)) 10 from (hpb.1.w (md_w1 hpb.2.1)).1) (dm.getr (d := (d + 2)) hpb rfl (j := 1) (by decide) rfl (nI z) (c := 8) (by decide)) ?_
        rw [show (tget ((ak m Hsb) 1) (nI z) 8) = ((ak m Hsb 1).2 z 8) from tget_nI (by omega)]
        refine mw_if (P := ((ak m Hsb 1).2 z 8) = 0) (a := 64) (b := 75) (fun _ => rfl) trivial (fun h5 => ?_) (fun h5 => ?_)
        · -- 64: ((ak m Hsb 1).2 z 8) = 0
          refine mw_go mu_g182 (k := 2) (f1 := (66, [(1, .inl (nI dn)), (3, .inl (nI z)), (0, .inr (.inr (some 92))), (2, .inl (nI y))], [.inl (nI z), .inr (.inr (some 92))], Hsb)) (C := []) rfl trivial ?_
          refine mw_cI (fun _ => rfl) (show mu_is Hsb (some 92) 12 from hpb.1.is rfl) (so_reckon2 (C := C) (d := d) hpb hIs hc (i := z) hzM hVs hRs h5) (fun x6 H6 q6 => ?_)
          rcases q6 with ⟨rfl, rfl⟩ | ⟨rfl, hp6, qt6, hI6, hR6, hV6, hJ6, hC6⟩
          · -- (0 : Int32)
            refine mw_if (P := (0 : Int32) = 0) (a := 75) (b := 72) (fun _ => rfl) trivial (fun h7 => ?_) (fun h7 => absurd (by decide) h7)
            refine mw_go mu_g182 (k := 2) (f1 := (34, [(3, .inl ((nI z) + 1)), (1, .inl (nI dn)), (0, .inr (.inr (some 92))), (2, .inl (nI y))], [], Hsb)) (C := []) rfl trivial ?_
            rw [nI_1 z]
            exact mw_sub (by simp) (ihb (dn, z + 1, Hsb) ⟨hpb, htb, (show (z + 1) ≤ (X 1).1 from by omega), (show SI m X Hsb from hIs), (show VMs (ak m Hsb) from hVs), (show RKs (ak m Hsb) from hRs), (show ∀ j, j ≠ 1 → ak m Hsb j = ak m H j from hJs), (show dn = cnt (ak m Hsb) (X 1).1 from hdn)⟩ (by show (X 1).1 - (z + 1) < (X 1).1 - z; omega))
          · -- (1 : Int32)
            have ht6 := htb.trans qt6
            refine mw_if (P := (1 : Int32) = 0) (a := 75) (b := 72) (fun _ => rfl) trivial (fun h8 => absurd h8 (by decide)) (fun h8 => ?_)
            refine mw_go mu_g182 (k := 3) (f1 := (34, [(3, .inl ((nI z) + 1)), (1, .inl ((nI dn) + 1)), (0, .inr (.inr (some 92))), (2, .inl (nI y))], [], H6)) (C := []) rfl trivial ?_
            rw [nI_1 dn]
            rw [nI_1 z]
            exact mw_sub (by simp) (ihb (dn + 1, z + 1, H6) ⟨hp6, ht6, (show (z + 1) ≤ (X 1).1 from by omega), (show SI m X H6 from hI6), (show VMs (ak m H6) from hV6), (show RKs (ak m H6) from hR6), (show ∀ j, j ≠ 1 → ak m H6 j = ak m H j from (fun j hj => (hJ6 j hj).trans (hJs j hj))), (show (dn + 1) = cnt (ak m H6) (X 1).1 from (by rw [hC6, ← hdn]))⟩ (by show (X 1).1 - (z + 1) < (X 1).1 - z; omega))
        · -- 75: not ((ak m Hsb 1).2 z 8) = 0
          refine mw_go mu_g182 (k := 2) (f1 := (34, [(3, .inl ((nI z) + 1)), (1, .inl (nI dn)), (0, .inr (.inr (some 92))), (2, .inl (nI y))], [], Hsb)) (C := []) rfl trivial ?_
          rw [nI_1 z]
          exact mw_sub (by simp) (ihb (dn, z + 1, Hsb) ⟨hpb, htb, (show (z + 1) ≤ (X 1).1 from by omega), (show SI m X Hsb from hIs), (show VMs (ak m Hsb) from hVs), (show RKs (ak m Hsb) from hRs), (show ∀ j, j ≠ 1 → ak m Hsb j = ak m H j from hJs), (show dn = cnt (ak m Hsb) (X 1).1 from hdn)⟩ (by show (X 1).1 - (z + 1) < (X 1).1 - z; omega))
      · -- 81: not (nI z) < (nI ((ak m Hsb) 1).1)
        rw [hIs.n (j := 1) (by decide)] at h3
        refine mw_go mu_g182 (k := 2) (f1 := (4, [(2, .inl ((nI y) + 1)), (1, .inl (nI dn)), (3, .inl (nI z)), (0, .inr (.inr (some 92)))], [], Hsb)) (C := []) rfl trivial ?_
        rw [nI_1 y]
        exact mw_sub (by simp) (iha (dn, y + 1, Hsb) ⟨hpb, htb, (show (y + 1) ≤ (X 1).1 from by omega), (show SI m X Hsb from hIs), (show VMs (ak m Hsb) from hVs), (show RKs (ak m Hsb) from hRs), (show ∀ j, j ≠ 1 → ak m Hsb j = ak m H j from hJs), (show dn = cnt (ak m Hsb) (X 1).1 from hdn)⟩ (by show (X 1).1 - (y + 1) < (X 1).1 - y; omega))
    · -- 87: not (nI dn) < (nI ((ak m Hsa) 1).1)
      refine mw_go mu_g182 (k := 3) (f1 := (92, [(1, .inl (nI dn)), (2, .inl (nI y)), (0, .inr (.inr (some 92)))], [.inr (.inr (mu_r Hsa 92 2)), .inl (nI dn)], Hsa)) (C := [mu_is Hsa (some 92) 12]) rfl (show mu_is Hsa (some 92) 12 from hpa.1.is rfl) ?_
      rw [hpa.2.2.1]
      refine mw_go mu_g182 (k := 1) (f1 := (95, [(1, .inl (nI dn)), (2, .inl (nI y)), (0, .inr (.inr (some 92)))], [.inr (.inr (mu_r Hsa m 1)), .inl (nI dn)], Hsa)) (C := [mu_is Hsa (some m) 6]) rfl (show mu_is Hsa (some m) 6 from (show mu_is Hsa (some m) 6 from gi_im hpa.1 hpa.2.1)) ?_
      rw [(show mu_r Hsa m 1 = some (m + 3) from (gi_mr hpa.1 hpa.2.1 (j := 1) (by decide)).trans (congrArg some (by omega)))]
      refine mw_go mu_g182 (k := 1) (f1 := (98, [(1, .inl (nI dn)), (2, .inl (nI y)), (0, .inr (.inr (some 92)))], [.inl (mu_i Hsa (m + 3) 2), .inl (nI dn)], Hsa)) (C := [mu_is Hsa (some (m + 3)) 10]) rfl (show mu_is Hsa (some (m + 3)) 10 from (hpa.1.w (md_w1 hpa.2.1)).1) ?_
      rw [(show mu_i Hsa (m + 3) 2 = nI ((ak m Hsa) 1).1 from hpa.size rfl (j := 1) (by decide))]
      refine mw_if (P := (nI dn) = (nI ((ak m Hsa) 1).1)) (a := 101) (b := 105) (fun _ => rfl) trivial (fun h9 => ?_) (fun h9 => ?_)
      · -- 101: (nI dn) = (nI ((ak m Hsa) 1).1)
        refine mw_go mu_g182 (k := 2) (f1 := (106, [(1, .inl (nI dn)), (2, .inl (nI y)), (0, .inr (.inr (some 92)))], [.inl (1 : Int32)], Hsa)) (C := []) rfl trivial ?_
        have hde : dn = (X 1).1 := by rw [hIs.n (j := 1) (by decide)] at h9; exact nI_inj (by omega) (by omega) h9
        exact mw_of (fun _ => mu_ret rfl (Or.inr rfl) ⟨_, Hsa, rfl, Or.inr rfl, hpa, hta, hIs, hVs, hJs, fun _ => ⟨hRs, fun k hk => cnt_all (X 1).1 (by omega) k hk⟩⟩)
      · -- 105: not (nI dn) = (nI ((ak m Hsa) 1).1)
        refine mw_go mu_g182 (k := 1) (f1 := (106, [(1, .inl (nI dn)), (2, .inl (nI y)), (0, .inr (.inr (some 92)))], [.inl (0 : Int32)], Hsa)) (C := []) rfl trivial ?_
        exact mw_of (fun _ => mu_ret rfl (Or.inl rfl) ⟨_, Hsa, rfl, Or.inl rfl, hpa, hta, hIs, hVs, hJs, fun z => absurd z (by decide)⟩)
  · -- 87: not (nI y) < (nI ((ak m Hsa) 1).1)
    rw [hIs.n (j := 1) (by decide)] at h1
    refine mw_go mu_g182 (k := 3) (f1 := (92, [(1, .inl (nI dn)), (2, .inl (nI y)), (0, .inr (.inr (some 92)))], [.inr (.inr (mu_r Hsa 92 2)), .inl (nI dn)], Hsa)) (C := [mu_is Hsa (some 92) 12]) rfl (show mu_is Hsa (some 92) 12 from hpa.1.is rfl) ?_
    rw [hpa.2.2.1]
    refine mw_go mu_g182 (k := 1) (f1 := (95, [(1, .inl (nI dn)), (2, .inl (nI y)), (0, .inr (.inr (some 92)))], [.inr (.inr (mu_r Hsa m 1)), .inl (nI dn)], Hsa)) (C := [mu_is Hsa (some m) 6]) rfl (show mu_is Hsa (some m) 6 from (show mu_is Hsa (some m) 6 from gi_im hpa.1 hpa.2.1)) ?_
    rw [(show mu_r Hsa m 1 = some (m + 3) from (gi_mr hpa.1 hpa.2.1 (j := 1) (by decide)).trans (congrArg some (by omega)))]
    refine mw_go mu_g182 (k := 1) (f1 := (98, [(1, .inl (nI dn)), (2, .inl (nI y)), (0, .inr (.inr (some 92)))], [.inl (mu_i Hsa (m + 3) 2), .inl (nI dn)], Hsa)) (C := [mu_is Hsa (some (m + 3)) 10]) rfl (show mu_is Hsa (some (m + 3)) 10 from (hpa.1.w (md_w1 hpa.2.1)).1) ?_
    rw [(show mu_i Hsa (m + 3) 2 = nI ((ak m Hsa) 1).1 from hpa.size rfl (j := 1) (by decide))]
    refine mw_if (P := (nI dn) = (nI ((ak m Hsa) 1).1)) (a := 101) (b := 105) (fun _ => rfl) trivial (fun h10 => ?_) (fun h10 => ?_)
    · -- 101: (nI dn) = (nI ((ak m Hsa) 1).1)
      refine mw_go mu_g182 (k := 2) (f1 := (106, [(1, .inl (nI dn)), (2, .inl (nI y)), (0, .inr (.inr (some 92)))], [.inl (1 : Int32)], Hsa)) (C := []) rfl trivial ?_
      have hde : dn = (X 1).1 := by rw [hIs.n (j := 1) (by decide)] at h10; exact nI_inj (by omega) (by omega) h10
      exact mw_of (fun _ => mu_ret rfl (Or.inr rfl) ⟨_, Hsa, rfl, Or.inr rfl, hpa, hta, hIs, hVs, hJs, fun _ => ⟨hRs, fun k hk => cnt_all (X 1).1 (by omega) k hk⟩⟩)
    · -- 105: not (nI dn) = (nI ((ak m Hsa) 1).1)
      refine mw_go mu_g182 (k := 1) (f1 := (106, [(1, .inl (nI dn)), (2, .inl (nI y)), (0, .inr (.inr (some 92)))], [.inl (0 : Int32)], Hsa)) (C := []) rfl trivial ?_
      exact mw_of (fun _ => mu_ret rfl (Or.inl rfl) ⟨_, Hsa, rfl, Or.inl rfl, hpa, hta, hIs, hVs, hJs, fun z => absurd z (by decide)⟩)
end SoundEnds
