/-! PROVER: small methods; sets by name -/
/-- the number of a set, or -1 -/
def sI : Option Nat → Int32
  | none => -1
  | some j => nI j
/-- the pools of the Prover: what stands there has its length -/
def PLS (V : Ud) : Prop := (∀ c, c < 248 → V.2.2.2.2.2 161 c = none ∨ ∃ q, LSN V 161 c q 256) ∧ ∀ c, c < 64 → V.2.2.2.2.2 163 c = none ∨ ∃ q L, (L = 16 ∨ L = 256) ∧ LSN V 163 c q L
/-- which of EX, E [ ] and EG -/
def plo (o : Nat) : Nat := if o = 10 ∨ o = 13 then 10 else if o = 12 ∨ o = 14 then 12 else 28
/-- the data behind seek -/
def sekU (U : Ud) (a b w k : Int32) : Ud := upI (upI (upI (upI (upI (upI (upI (upI (upT U (ac 26 U.1 0)) 158 4 k) 158 16 a) 158 17 b) 158 18 w) 158 19 k) 158 20 0) 158 15 (-1)) 158 14 3
/-- how many below k -/
def cnb (B : Nat → Bool) : Nat → Nat
  | 0 => 0
  | k + 1 => cnb B k + if B k = true then 1 else 0
section ProverNames
variable {U V : Ud} {a i q L j b c : Nat} {H H1 : mu_H} {B : Nat → Bool} {k t : Nat} {W : Option Nat}
theorem LSN.ref (h : LSN V a i q L) (ha : a = 161 ∨ a = 163) : V.2.2.2.1 a i = some q := by
  rcases h with h | h
  · have := h.1; omega
  · exact h.2.2.1
theorem LSN.pool (h : LSN V a i q L) (ha : a = 161 ∨ a = 163) : ∃ f, V.2.2.2.2.2 a i = some (L, f) := by
  rcases h with h | h
  · have := h.1; omega
  · exact h.2.2.2
theorem sI_neg (hb : ∀ j, W = some j → j < 2147483648) : sI W < 0 ↔ W = none := by
  cases W with
  | none => exact ⟨fun _ => rfl, fun _ => by decide⟩
  | some j => exact ⟨fun y => absurd y (nI_pos (hb j rfl)), fun y => by cases y⟩
theorem cnb_le : ∀ k, cnb B k ≤ k
  | 0 => Nat.le_refl _
  | k + 1 => by
    have ih := cnb_le k
    show cnb B k + (if B k = true then 1 else 0) ≤ k + 1
    by_cases h : B k = true
    · rw [if_pos h]; omega
    · rw [if_neg h]; omega
theorem cnb_yes (h : B k = true) : cnb B (k + 1) = cnb B k + 1 := by
  show cnb B k + (if B k = true then 1 else 0) = _
  rw [if_pos h]
theorem cnb_no (h : ¬ B k = true) : cnb B (k + 1) = cnb B k := by
  show cnb B k + (if B k = true then 1 else 0) = _
  rw [if_neg h]
  rfl
theorem cnb_mono : ∀ d, cnb B k ≤ cnb B (k + d)
  | 0 => Nat.le_refl _
  | d + 1 => Nat.le_trans (cnb_mono d) (Nat.le_add_right _ _)
/-- a set is made, or a small one is made anew: all others stay -/
def Fnw (a c : Nat) : Uf := ⟨[], [], [], [(a, c)], [], true⟩
theorem in2_one (h : in2 [(a, c)] b j = false) : ¬ (b = a ∧ j = c) :=
  in2_ne (List.any_eq_true.mpr ⟨(a, c), List.mem_singleton.mpr rfl, by show (Nat.beq a a && Nat.beq c c) = true; rw [Nat.beq_refl, Nat.beq_refl]; rfl⟩) h
theorem nw_uq {N : Nat} : uq (Fnw a c) U (upR (upC U a c N) a c (some q)) := by
  refine ⟨fun _ _ => rfl, fun _ _ _ => rfl, fun p j hj => rfl, fun p j hj => ?_, fun _ _ => rfl, fun hp => absurd (show true = false from hp) (by decide)⟩
  refine ⟨rfl, ?_⟩
  show (if p = a ∧ j = c then some q else U.2.2.2.1 p j) = _
  rw [if_neg (in2_one hj)]
theorem nw_at {N : Nat} : (upR (upC U a c N) a c (some q)).2.2.2.2.2 a c = some (N, fun _ => 0) := by
  show (if a = a ∧ c = c then some (N, fun _ => (0 : Int64)) else _) = _
  rw [if_pos ⟨rfl, rfl⟩]
theorem nw_ne {N : Nat} (h : ¬ (b = a ∧ j = c)) : (upR (upC U a c N) a c (some q)).2.2.2.2.2 b j = U.2.2.2.2.2 b j := by
  show (if b = a ∧ j = c then some (N, fun _ => (0 : Int64)) else _) = _
  rw [if_neg h]
theorem nw_lsn {N : Nat} (ha : a = 161 ∨ a = 163) (hp : (a, c) ∈ plp) : LSN (upR (upC U a c N) a c (some q)) a c q N := by
  refine Or.inr ⟨ha, hp, ?_, _, nw_at⟩
  show (if a = a ∧ c = c then some q else _) = _
  rw [if_pos ⟨rfl, rfl⟩]
theorem nw_keep {N p : Nat} (h : LSN U b j p L) (hn : ¬ (b = a ∧ j = c)) : LSN (upR (upC U a c N) a c (some q)) b j p L ∧ lgf (upR (upC U a c N) a c (some q)) b j = lgf U b j := by
  have e1 : (upR (upC U a c N) a c (some q)).2.2.2.1 b j = U.2.2.2.1 b j := by
    show (if b = a ∧ j = c then some q else U.2.2.2.1 b j) = _
    rw [if_neg hn]
  refine ⟨?_, ?_⟩
  · rcases h with h | ⟨h1, h2, h3, f, h4⟩
    · exact Or.inl h
    · exact Or.inr ⟨h1, h2, e1.trans h3, f, (nw_ne hn).trans h4⟩
  · funext k
    unfold lgf
    by_cases hb : b = 0
    · rw [if_pos hb, if_pos hb]
      rfl
    · rw [if_neg hb, if_neg hb, nw_ne hn]
end ProverNames
section ProverSmall2
variable {H : mu_H} {U : Ud} {m d o i b n k T gq ga gi L sc to : Nat} {C : Nat → Nat} {js : Nat → Option Nat} {x0 x1 x2 x3 : Int32}
/-- PathProver$Prover.legs()I -/
abbrev mu_m346 : ev_M := (1, (some .int), [], ev_b346)
theorem mu_g346 : mu_good mu_m346 := mu_goodk ev_k346
theorem pr_legs (h : um m H) (e : ud m H = U) (hmo : U.2.2.2.1 99 0 = some m) (hb : (U.1 16).1 < 2147483648) : mu_TI (mu_D (d + 2)) 346 [.inr (.inr (some 158))] H (fun x H1 => x = nI (max 1 (U.1 16).1) ∧ H1 = H) := by
  refine mu_meth (M := mu_m346) rfl rfl ?_
  refine mw_ht (mu_fn_of (show [0].Nodup by decide)) ?_
  refine mw_go mu_g346 (k := 3) (f1 := (5, [(0, .inr (.inr (some 158)))], [.inr (.inr (mu_r H 158 0)), .inl (1 : Int32)], H)) (C := [mu_is H (some 158) 8]) rfl (show mu_is H (some 158) 8 from (h.1.1.is rfl)) ?_
  rw [(h.1.1.r (p := 158) (j := 0) (q := 99) rfl)]
  refine mw_go mu_g346 (k := 1) (f1 := (8, [(0, .inr (.inr (some 158)))], [.inr (.inr (mu_r H 99 0)), .inl (1 : Int32)], H)) (C := [mu_is H (some 99) 13]) rfl (show mu_is H (some 99) 13 from (h.1.1.is rfl)) ?_
  rw [(show mu_r H 99 0 = (some m) from (ud_q (U := U) (m := m) (P := 99) (j := 0) e rfl).trans hmo)]
  refine mw_go mu_g346 (k := 1) (f1 := (11, [(0, .inr (.inr (some 158)))], [.inr (.inr (mu_r H m 16)), .inl (1 : Int32)], H)) (C := [mu_is H (some m) 6]) rfl (show mu_is H (some m) 6 from (show mu_is H (some m) 6 from gi_im h.1.1 h.2)) ?_
  rw [(show mu_r H m 16 = some (m + 33) from (gi_mr h.1.1 h.2 (j := 16) (by decide)).trans (congrArg some (by omega)))]
  refine mw_go mu_g346 (k := 1) (f1 := (14, [(0, .inr (.inr (some 158)))], [.inl (mu_i H (m + 33) 2), .inl (1 : Int32)], H)) (C := [mu_is H (some (m + 33)) 10]) rfl (show mu_is H (some (m + 33)) 10 from ((h.1.1.w (md_w16 h.2)).1)) ?_
  rw [(show mu_i H (m + 33) 2 = (nI (U.1 16).1) from (h.size e (j := 16) (by decide) rfl).trans (congrArg (fun z => nI z.1) (show U.1 16 = (U.1 16) from rfl)))]
  refine mw_cIe (fun _ => rfl) trivial (mu_max_ok (d := d) (1 : Int32) (nI (U.1 16).1)) ?_
  rw [show (mu_max (1 : Int32) (nI (U.1 16).1)) = nI (max 1 ((U.1 16).1)) from mu_max_n (a := 1) (b := (U.1 16).1) (by omega) (by omega)]
  exact mw_of (fun _ => mu_ret rfl trivial ⟨(nI (max 1 ((U.1 16).1))), H, rfl, rfl, rfl⟩)
/-- PathProver$Prover.plainOf(I)I -/
abbrev mu_m354 : ev_M := (1, (some .int), [], ev_b354)
theorem mu_g354 : mu_good mu_m354 := mu_goodk ev_k354
theorem pr_plain (ho : o ≤ 34) : mu_TI (mu_D (d + 1)) 354 [.inl (nI o)] H (fun x H1 => x = nI (plo o) ∧ H1 = H) := by
  refine mu_meth (M := mu_m354) rfl rfl ?_
  refine mw_ht (mu_fn_of (show [0].Nodup by decide)) ?_
  refine mw_go mu_g354 (k := 2) (f1 := (3, [(0, .inl (nI o))], [.inl (10 : Int32), .inl (nI o)], H)) (C := []) rfl trivial ?_
  refine mw_if (P := (nI o) = (10 : Int32)) (a := 12) (b := 6) (fun _ => rfl) trivial (fun h1 => ?_) (fun h1 => ?_)
  · -- 12: (nI o) = (10 : Int32)
    have nh1 : o = 10 := (nI_eq (by omega) (by omega)).mp (show nI o = nI 10 from h1)
    refine mw_go mu_g354 (k := 1) (f1 := (14, [(0, .inl (nI o))], [.inl (10 : Int32)], H)) (C := []) rfl trivial ?_
    exact mw_of (fun _ => mu_ret rfl trivial ⟨(10 : Int32), H, rfl, (by unfold plo; first | (rw [if_pos (by omega)]; rfl) | (rw [if_neg (by omega), if_pos (by omega)]; rfl) | (rw [if_neg (by omega), if_neg (by omega)]; rfl)), rfl⟩)
  · -- 6: not (nI o) = (10 : Int32)
    have nh1 : ¬ o = 10 := fun z => h1 (show nI o = nI 10 from (nI_eq (by omega) (by omega)).mpr z)
    refine mw_go mu_g354 (k := 2) (f1 := (9, [(0, .inl (nI o))], [.inl (13 : Int32), .inl (nI o)], H)) (C := []) rfl trivial ?_
    refine mw_if (P := (nI o) = (13 : Int32)) (a := 12) (b := 15) (fun _ => rfl) trivial (fun h2 => ?_) (fun h2 => ?_)
    · -- 12: (nI o) = (13 : Int32)
      have nh2 : o = 13 := (nI_eq (by omega) (by omega)).mp (show nI o = nI 13 from h2)
      refine mw_go mu_g354 (k := 1) (f1 := (14, [(0, .inl (nI o))], [.inl (10 : Int32)], H)) (C := []) rfl trivial ?_
      exact mw_of (fun _ => mu_ret rfl trivial ⟨(10 : Int32), H, rfl, (by unfold plo; first | (rw [if_pos (by omega)]; rfl) | (rw [if_neg (by omega), if_pos (by omega)]; rfl) | (rw [if_neg (by omega), if_neg (by omega)]; rfl)), rfl⟩)
    · -- 15: not (nI o) = (13 : Int32)
      have nh2 : ¬ o = 13 := fun z => h2 (show nI o = nI 13 from (nI_eq (by omega) (by omega)).mpr z)
      refine mw_go mu_g354 (k := 2) (f1 := (18, [(0, .inl (nI o))], [.inl (12 : Int32), .inl (nI o)], H)) (C := []) rfl trivial ?_
      refine mw_if (P := (nI o) = (12 : Int32)) (a := 27) (b := 21) (fun _ => rfl) trivial (fun h3 => ?_) (fun h3 => ?_)
      · -- 27: (nI o) = (12 : Int32)
        have nh3 : o = 12 := (nI_eq (by omega) (by omega)).mp (show nI o = nI 12 from h3)
        refine mw_go mu_g354 (k := 2) (f1 := (34, [(0, .inl (nI o))], [.inl (12 : Int32)], H)) (C := []) rfl trivial ?_
        exact mw_of (fun _ => mu_ret rfl trivial ⟨(12 : Int32), H, rfl, (by unfold plo; first | (rw [if_pos (by omega)]; rfl) | (rw [if_neg (by omega), if_pos (by omega)]; rfl) | (rw [if_neg (by omega), if_neg (by omega)]; rfl)), rfl⟩)
      · -- 21: not (nI o) = (12 : Int32)
        have nh3 : ¬ o = 12 := fun z => h3 (show nI o = nI 12 from (nI_eq (by omega) (by omega)).mpr z)
        refine mw_go mu_g354 (k := 2) (f1 := (24, [(0, .inl (nI o))], [.inl (14 : Int32), .inl (nI o)], H)) (C := []) rfl trivial ?_
        refine mw_if (P := (nI o) = (14 : Int32)) (a := 27) (b := 32) (fun _ => rfl) trivial (fun h4 => ?_) (fun h4 => ?_)
        · -- 27: (nI o) = (14 : Int32)
          have nh4 : o = 14 := (nI_eq (by omega) (by omega)).mp (show nI o = nI 14 from h4)
          refine mw_go mu_g354 (k := 2) (f1 := (34, [(0, .inl (nI o))], [.inl (12 : Int32)], H)) (C := []) rfl trivial ?_
          exact mw_of (fun _ => mu_ret rfl trivial ⟨(12 : Int32), H, rfl, (by unfold plo; first | (rw [if_pos (by omega)]; rfl) | (rw [if_neg (by omega), if_pos (by omega)]; rfl) | (rw [if_neg (by omega), if_neg (by omega)]; rfl)), rfl⟩)
        · -- 32: not (nI o) = (14 : Int32)
          have nh4 : ¬ o = 14 := fun z => h4 (show nI o = nI 14 from (nI_eq (by omega) (by omega)).mpr z)
          refine mw_go mu_g354 (k := 1) (f1 := (34, [(0, .inl (nI o))], [.inl (28 : Int32)], H)) (C := []) rfl trivial ?_
          exact mw_of (fun _ => mu_ret rfl trivial ⟨(28 : Int32), H, rfl, (by unfold plo; first | (rw [if_pos (by omega)]; rfl) | (rw [if_neg (by omega), if_pos (by omega)]; rfl) | (rw [if_neg (by omega), if_neg (by omega)]; rfl)), rfl⟩)
/-- PathProver$Prover.isShownFalse(I)Z -/
abbrev mu_m356 : ev_M := (1, (some .boolean), [], ev_b356)
theorem mu_g356 : mu_good mu_m356 := mu_goodk ev_k356
theorem pr_shf (ho : o ≤ 34) : mu_TI (mu_D (d + 1)) 356 [.inl (nI o)] H (fun x H1 => (x = 1 ∧ (13 ≤ o ∧ o ≤ 15) ∧ H = H1) ∨ (x = 0 ∧ ¬ (13 ≤ o ∧ o ≤ 15) ∧ H = H1)) := by
  refine mu_meth (M := mu_m356) rfl rfl ?_
  refine mw_ht (mu_fn_of (show [0].Nodup by decide)) ?_
  refine mw_go mu_g356 (k := 2) (f1 := (3, [(0, .inl (nI o))], [.inl (13 : Int32), .inl (nI o)], H)) (C := []) rfl trivial ?_
  refine mw_if (P := (nI o) = (13 : Int32)) (a := 18) (b := 6) (fun _ => rfl) trivial (fun h1 => ?_) (fun h1 => ?_)
  · -- 18: (nI o) = (13 : Int32)
    have nh1 : o = 13 := (nI_eq (by omega) (by omega)).mp (show nI o = nI 13 from h1)
    refine mw_go mu_g356 (k := 2) (f1 := (23, [(0, .inl (nI o))], [.inl (1 : Int32)], H)) (C := []) rfl trivial ?_
    exact mw_of (fun _ => mu_ret rfl (Or.inr rfl) ⟨(1 : Int32), H, rfl, Or.inl ⟨rfl, by omega, rfl⟩⟩)
  · -- 6: not (nI o) = (13 : Int32)
    have nh1 : ¬ o = 13 := fun z => h1 (show nI o = nI 13 from (nI_eq (by omega) (by omega)).mpr z)
    refine mw_go mu_g356 (k := 2) (f1 := (9, [(0, .inl (nI o))], [.inl (14 : Int32), .inl (nI o)], H)) (C := []) rfl trivial ?_
    refine mw_if (P := (nI o) = (14 : Int32)) (a := 18) (b := 12) (fun _ => rfl) trivial (fun h2 => ?_) (fun h2 => ?_)
    · -- 18: (nI o) = (14 : Int32)
      have nh2 : o = 14 := (nI_eq (by omega) (by omega)).mp (show nI o = nI 14 from h2)
      refine mw_go mu_g356 (k := 2) (f1 := (23, [(0, .inl (nI o))], [.inl (1 : Int32)], H)) (C := []) rfl trivial ?_
      exact mw_of (fun _ => mu_ret rfl (Or.inr rfl) ⟨(1 : Int32), H, rfl, Or.inl ⟨rfl, by omega, rfl⟩⟩)
    · -- 12: not (nI o) = (14 : Int32)
      have nh2 : ¬ o = 14 := fun z => h2 (show nI o = nI 14 from (nI_eq (by omega) (by omega)).mpr z)
      refine mw_go mu_g356 (k := 2) (f1 := (15, [(0, .inl (nI o))], [.inl (15 : Int32), .inl (nI o)], H)) (C := []) rfl trivial ?_
      refine mw_if (P := (nI o) = (15 : Int32)) (a := 18) (b := 22) (fun _ => rfl) trivial (fun h3 => ?_) (fun h3 => ?_)
      · -- 18: (nI o) = (15 : Int32)
        have nh3 : o = 15 := (nI_eq (by omega) (by omega)).mp (show nI o = nI 15 from h3)
        refine mw_go mu_g356 (k := 2) (f1 := (23, [(0, .inl (nI o))], [.inl (1 : Int32)], H)) (C := []) rfl trivial ?_
        exact mw_of (fun _ => mu_ret rfl (Or.inr rfl) ⟨(1 : Int32), H, rfl, Or.inl ⟨rfl, by omega, rfl⟩⟩)
      · -- 22: not (nI o) = (15 : Int32)
        have nh3 : ¬ o = 15 := fun z => h3 (show nI o = nI 15 from (nI_eq (by omega) (by omega)).mpr z)
        refine mw_go mu_g356 (k := 1) (f1 := (23, [(0, .inl (nI o))], [.inl (0 : Int32)], H)) (C := []) rfl trivial ?_
        exact mw_of (fun _ => mu_ret rfl (Or.inl rfl) ⟨(0 : Int32), H, rfl, Or.inr ⟨rfl, by omega, rfl⟩⟩)
/-- PathProver$Prover.hasSet(I)Z -/
abbrev mu_m348 : ev_M := (3, (some .boolean), [], ev_b348)
theorem mu_g348 : mu_good mu_m348 := mu_goodk ev_k348
theorem pr_hasSet (h : um m H) (e : ud m H = U) (hz : (U.1 26).1 < 2147483647) (hb : b ≤ (U.1 26).1) (hjs : ∀ k, k < (U.1 26).1 → (U.1 26).2 k 1 = sI (js k)) (hjb : ∀ k, k < (U.1 26).1 → ∀ j, js k = some j → j < 2147483648) : mu_TI (mu_D (d + 2)) 348 [.inr (.inr (some 158)), .inl (nI b)] H (fun x H1 => (x = 1 ∧ (∃ k, b ≤ k ∧ k < (U.1 26).1 ∧ ¬ js k = none) ∧ H = H1) ∨ (x = 0 ∧ (∀ k, b ≤ k → k < (U.1 26).1 → js k = none) ∧ H = H1)) := by
  refine mu_meth (M := mu_m348) rfl rfl ?_
  refine mw_ht (mu_fn_of (show [0, 1].Nodup by decide)) ?_
  refine mw_go mu_g348 (k := 2) (f1 := (2, [(2, .inl (nI b)), (0, .inr (.inr (some 158))), (1, .inl (nI b))], [], H)) (C := []) rfl trivial ?_
  refine mw_sub (L' := [(2, .inl (nI b)), (0, .inr (.inr (some 158))), (1, .inl (nI b))]) (by simp) ?_
  refine mw_down (α := Nat) (fun zs => (2, [(2, .inl (nI zs)), (0, .inr (.inr (some 158))), (1, .inl (nI b))], [], H)) (fun zs => (U.1 26).1 + 1 - zs) (fun zs => (b ≤ zs ∧ zs ≤ (U.1 26).1) ∧ (∀ i, b ≤ i → i < zs → js i = none)) (fun zs hza iha => ?_) b ⟨(show b ≤ b ∧ b ≤ (U.1 26).1 from (by omega)), (show ∀ i, b ≤ i → i < b → js i = none from (fun i i1 i2 => absurd i2 (by omega)))⟩
  obtain ⟨k, rfl⟩ : ∃ y, y = zs := ⟨zs, rfl⟩
  obtain ⟨hkk, hno⟩ := hza
  have hkk : b ≤ k ∧ k ≤ (U.1 26).1 := hkk
  have hno : ∀ i, b ≤ i → i < k → js i = none := hno
  show mu_W _ _ (2, [(2, .inl (nI k)), (0, .inr (.inr (some 158))), (1, .inl (nI b))], [], H) _
  refine mw_go mu_g348 (k := 3) (f1 := (7, [(2, .inl (nI k)), (0, .inr (.inr (some 158))), (1, .inl (nI b))], [.inr (.inr (mu_r H 158 2)), .inl (nI k)], H)) (C := [mu_is H (some 158) 8]) rfl (show mu_is H (some 158) 8 from (h.1.1.is rfl)) ?_
  rw [(h.1.1.r (p := 158) (j := 2) (q := 159) rfl)]
  refine mw_go mu_g348 (k := 1) (f1 := (10, [(2, .inl (nI k)), (0, .inr (.inr (some 158))), (1, .inl (nI b))], [.inl (mu_i H 159 2), .inl (nI k)], H)) (C := [mu_is H (some 159) 10]) rfl (show mu_is H (some 159) 10 from (h.1.1.is rfl)) ?_
  rw [(show mu_i H 159 2 = (nI (U.1 26).1) from (h.size e (j := 26) (by decide) rfl).trans (congrArg (fun z => nI z.1) (show U.1 26 = (U.1 26) from rfl)))]
  refine mw_if (P := (nI k) < (nI (U.1 26).1)) (a := 13) (b := 33) (fun _ => rfl) trivial (fun h1 => ?_) (fun h1 => ?_)
  · -- 13: (nI k) < (nI (U.1 26).1)
    have nh1 : k < ((U.1 26).1) := (nI_ltI (by omega) (by omega)).mp (show nI k < nI ((U.1 26).1) from h1)
    refine mw_go mu_g348 (k := 2) (f1 := (17, [(2, .inl (nI k)), (0, .inr (.inr (some 158))), (1, .inl (nI b))], [.inr (.inr (mu_r H 158 2))], H)) (C := [mu_is H (some 158) 8]) rfl (show mu_is H (some 158) 8 from (h.1.1.is rfl)) ?_
    rw [(h.1.1.r (p := 158) (j := 2) (q := 159) rfl)]
    refine mw_go mu_g348 (k := 2) (f1 := (19, [(2, .inl (nI k)), (0, .inr (.inr (some 158))), (1, .inl (nI b))], [.inl (1 : Int32), .inl (nI k), .inr (.inr (some 159))], H)) (C := []) rfl trivial ?_
    refine mw_cIe (fun _ => rfl) (show mu_is H (some 159) 10 from (h.1.1.is rfl)) (h.getr (d := d) e (j := 26) (by decide) rfl (nI k) (c := 1) (by decide)) ?_
    rw [show (tget (U.1 26) (nI k) 1) = (sI (js k)) from ((congrArg (fun z => tget z (nI k) 1) (show U.1 26 = (U.1 26) from rfl)).trans (tget_nI (by first | omega | decide))).trans (hjs k (by omega))]
    refine mw_if (P := (sI (js k)) < 0) (a := 27) (b := 25) (fun _ => rfl) trivial (fun h3 => ?_) (fun h3 => ?_)
    · -- 27: (sI (js k)) < 0
      refine mw_go mu_g348 (k := 1) (f1 := (30, [(2, .inl ((nI k) + 1)), (0, .inr (.inr (some 158))), (1, .inl (nI b))], [], H)) (C := []) rfl trivial ?_
      rw [(show ((nI k) + 1) = (nI (k + 1)) from (nI_add k 1))]
      refine mw_go mu_g348 (k := 1) (f1 := (2, [(2, .inl (nI (k + 1))), (0, .inr (.inr (some 158))), (1, .inl (nI b))], [], H)) (C := []) rfl trivial ?_
      exact mw_sub (by simp) (iha (k + 1) ⟨(show b ≤ (k + 1) ∧ (k + 1) ≤ (U.1 26).1 from (by omega)), (show ∀ i, b ≤ i → i < (k + 1) → js i = none from (fun i i1 i2 => by by_cases y : i = k; (rw [y]; exact (sI_neg (hjb k (by omega))).mp h3); (exact hno i i1 (by omega))))⟩ (by show (U.1 26).1 + 1 - (k + 1) < (U.1 26).1 + 1 - k; omega))
    · -- 25: not (sI (js k)) < 0
      refine mw_go mu_g348 (k := 1) (f1 := (26, [(2, .inl (nI k)), (0, .inr (.inr (some 158))), (1, .inl (nI b))], [.inl (1 : Int32)], H)) (C := []) rfl trivial ?_
      exact mw_of (fun _ => mu_ret rfl (Or.inr rfl) ⟨(1 : Int32), H, rfl, Or.inl ⟨rfl, ⟨k, by omega, by omega, fun y => h3 ((sI_neg (hjb k (by omega))).mpr y)⟩, rfl⟩⟩)
  · -- 33: not (nI k) < (nI (U.1 26).1)
    have nh1 : ¬ k < ((U.1 26).1) := fun z => h1 (show nI k < nI ((U.1 26).1) from (nI_ltI (by omega) (by omega)).mpr z)
    refine mw_go mu_g348 (k := 1) (f1 := (34, [(2, .inl (nI k)), (0, .inr (.inr (some 158))), (1, .inl (nI b))], [.inl (0 : Int32)], H)) (C := []) rfl trivial ?_
    exact mw_of (fun _ => mu_ret rfl (Or.inl rfl) ⟨(0 : Int32), H, rfl, Or.inr ⟨rfl, fun i i1 i2 => hno i i1 (by omega), rfl⟩⟩)
/-- PathProver$Prover.seek(IIII)V -/
abbrev mu_m358 : ev_M := (5, none, [], ev_b358)
theorem mu_g358 : mu_good mu_m358 := mu_goodk ev_k358
theorem pr_seek (h : um m H) (e : ud m H = U) : mu_TV (mu_D (d + 2)) 358 [.inr (.inr (some 158)), .inl x0, .inl x1, .inl x2, .inl x3] H (fun H1 => um m H1 ∧ ur m C H H1 ∧ ud m H1 = sekU U x0 x1 x2 x3) := by
  refine mu_meth (M := mu_m358) rfl rfl ?_
  refine mw_ht (mu_fn_of (show [0, 1, 2, 3, 4].Nodup by decide)) ?_
  refine mw_go mu_g358 (k := 2) (f1 := (4, [(0, .inr (.inr (some 158))), (1, .inl x0), (2, .inl x1), (3, .inl x2), (4, .inl x3)], [.inr (.inr (mu_r H 158 2))], H)) (C := [mu_is H (some 158) 8]) rfl (show mu_is H (some 158) 8 from (h.1.1.is rfl)) ?_
  rw [(h.1.1.r (p := 158) (j := 2) (q := 159) rfl)]
  refine mw_cV (fun _ => rfl) (show mu_is H (some 159) 10 from (h.1.1.is rfl)) (h.clearr (C := C) (d := d) e (j := 26) (Or.inr ⟨by decide, by decide⟩) rfl) (fun Q1 q1 => ?_)
  obtain ⟨u1, r1, d1⟩ := q1
  have ht1 : ur m C H Q1 := (ur.refl m C H).trans r1
  refine mw_go mu_g358 (k := 3) (f1 := (13, [(0, .inr (.inr (some 158))), (1, .inl x0), (2, .inl x1), (3, .inl x2), (4, .inl x3)], [], (mu_si Q1 158 4 x3))) (C := [mu_is Q1 (some 158) 8]) rfl (show mu_is Q1 (some 158) 8 from (u1.1.1.is rfl)) ?_
  obtain ⟨u2, r2, d2⟩ : um m (mu_si Q1 158 4 x3) ∧ ur m C Q1 (mu_si Q1 158 4 x3) ∧ ud m (mu_si Q1 158 4 x3) = (upI (upT U (ac 26 U.1 0)) 158 4 x3) := u1.sI (C := C) d1 rfl
  generalize (mu_si Q1 158 4 x3) = Q2 at u2 r2 d2 ⊢
  have ht2 : ur m C H Q2 := ht1.trans r2
  refine mw_go mu_g358 (k := 3) (f1 := (18, [(0, .inr (.inr (some 158))), (1, .inl x0), (2, .inl x1), (3, .inl x2), (4, .inl x3)], [], (mu_si Q2 158 16 x0))) (C := [mu_is Q2 (some 158) 8]) rfl (show mu_is Q2 (some 158) 8 from (u2.1.1.is rfl)) ?_
  obtain ⟨u3, r3, d3⟩ : um m (mu_si Q2 158 16 x0) ∧ ur m C Q2 (mu_si Q2 158 16 x0) ∧ ud m (mu_si Q2 158 16 x0) = (upI (upI (upT U (ac 26 U.1 0)) 158 4 x3) 158 16 x0) := u2.sI (C := C) d2 rfl
  generalize (mu_si Q2 158 16 x0) = Q3 at u3 r3 d3 ⊢
  have ht3 : ur m C H Q3 := ht2.trans r3
  refine mw_go mu_g358 (k := 3) (f1 := (23, [(0, .inr (.inr (some 158))), (1, .inl x0), (2, .inl x1), (3, .inl x2), (4, .inl x3)], [], (mu_si Q3 158 17 x1))) (C := [mu_is Q3 (some 158) 8]) rfl (show mu_is Q3 (some 158) 8 from (u3.1.1.is rfl)) ?_
  obtain ⟨u4, r4, d4⟩ : um m (mu_si Q3 158 17 x1) ∧ ur m C Q3 (mu_si Q3 158 17 x1) ∧ ud m (mu_si Q3 158 17 x1) = (upI (upI (upI (upT U (ac 26 U.1 0)) 158 4 x3) 158 16 x0) 158 17 x1) := u3.sI (C := C) d3 rfl
  generalize (mu_si Q3 158 17 x1) = Q4 at u4 r4 d4 ⊢
  have ht4 : ur m C H Q4 := ht3.trans r4
  refine mw_go mu_g358 (k := 3) (f1 := (28, [(0, .inr (.inr (some 158))), (1, .inl x0), (2, .inl x1), (3, .inl x2), (4, .inl x3)], [], (mu_si Q4 158 18 x2))) (C := [mu_is Q4 (some 158) 8]) rfl (show mu_is Q4 (some 158) 8 from (u4.1.1.is rfl)) ?_
  obtain ⟨u5, r5, d5⟩ : um m (mu_si Q4 158 18 x2) ∧ ur m C Q4 (mu_si Q4 158 18 x2) ∧ ud m (mu_si Q4 158 18 x2) = (upI (upI (upI (upI (upT U (ac 26 U.1 0)) 158 4 x3) 158 16 x0) 158 17 x1) 158 18 x2) := u4.sI (C := C) d4 rfl
  generalize (mu_si Q4 158 18 x2) = Q5 at u5 r5 d5 ⊢
  have ht5 : ur m C H Q5 := ht4.trans r5
  refine mw_go mu_g358 (k := 3) (f1 := (34, [(0, .inr (.inr (some 158))), (1, .inl x0), (2, .inl x1), (3, .inl x2), (4, .inl x3)], [], (mu_si Q5 158 19 x3))) (C := [mu_is Q5 (some 158) 8]) rfl (show mu_is Q5 (some 158) 8 from (u5.1.1.is rfl)) ?_
  obtain ⟨u6, r6, d6⟩ : um m (mu_si Q5 158 19 x3) ∧ ur m C Q5 (mu_si Q5 158 19 x3) ∧ ud m (mu_si Q5 158 19 x3) = (upI (upI (upI (upI (upI (upT U (ac 26 U.1 0)) 158 4 x3) 158 16 x0) 158 17 x1) 158 18 x2) 158 19 x3) := u5.sI (C := C) d5 rfl
  generalize (mu_si Q5 158 19 x3) = Q6 at u6 r6 d6 ⊢
  have ht6 : ur m C H Q6 := ht5.trans r6
  refine mw_go mu_g358 (k := 3) (f1 := (39, [(0, .inr (.inr (some 158))), (1, .inl x0), (2, .inl x1), (3, .inl x2), (4, .inl x3)], [], (mu_si Q6 158 20 (0 : Int32)))) (C := [mu_is Q6 (some 158) 8]) rfl (show mu_is Q6 (some 158) 8 from (u6.1.1.is rfl)) ?_
  obtain ⟨u7, r7, d7⟩ : um m (mu_si Q6 158 20 (0 : Int32)) ∧ ur m C Q6 (mu_si Q6 158 20 (0 : Int32)) ∧ ud m (mu_si Q6 158 20 (0 : Int32)) = (upI (upI (upI (upI (upI (upI (upT U (ac 26 U.1 0)) 158 4 x3) 158 16 x0) 158 17 x1) 158 18 x2) 158 19 x3) 158 20 (0 : Int32)) := u6.sI (C := C) d6 rfl
  generalize (mu_si Q6 158 20 (0 : Int32)) = Q7 at u7 r7 d7 ⊢
  have ht7 : ur m C H Q7 := ht6.trans r7
  refine mw_go mu_g358 (k := 3) (f1 := (44, [(0, .inr (.inr (some 158))), (1, .inl x0), (2, .inl x1), (3, .inl x2), (4, .inl x3)], [], (mu_si Q7 158 15 (-1 : Int32)))) (C := [mu_is Q7 (some 158) 8]) rfl (show mu_is Q7 (some 158) 8 from (u7.1.1.is rfl)) ?_
  obtain ⟨u8, r8, d8⟩ : um m (mu_si Q7 158 15 (-1 : Int32)) ∧ ur m C Q7 (mu_si Q7 158 15 (-1 : Int32)) ∧ ud m (mu_si Q7 158 15 (-1 : Int32)) = (upI (upI (upI (upI (upI (upI (upI (upT U (ac 26 U.1 0)) 158 4 x3) 158 16 x0) 158 17 x1) 158 18 x2) 158 19 x3) 158 20 (0 : Int32)) 158 15 (-1 : Int32)) := u7.sI (C := C) d7 rfl
  generalize (mu_si Q7 158 15 (-1 : Int32)) = Q8 at u8 r8 d8 ⊢
  have ht8 : ur m C H Q8 := ht7.trans r8
  refine mw_go mu_g358 (k := 3) (f1 := (49, [(0, .inr (.inr (some 158))), (1, .inl x0), (2, .inl x1), (3, .inl x2), (4, .inl x3)], [], (mu_si Q8 158 14 (3 : Int32)))) (C := [mu_is Q8 (some 158) 8]) rfl (show mu_is Q8 (some 158) 8 from (u8.1.1.is rfl)) ?_
  obtain ⟨u9, r9, d9⟩ : um m (mu_si Q8 158 14 (3 : Int32)) ∧ ur m C Q8 (mu_si Q8 158 14 (3 : Int32)) ∧ ud m (mu_si Q8 158 14 (3 : Int32)) = (upI (upI (upI (upI (upI (upI (upI (upI (upT U (ac 26 U.1 0)) 158 4 x3) 158 16 x0) 158 17 x1) 158 18 x2) 158 19 x3) 158 20 (0 : Int32)) 158 15 (-1 : Int32)) 158 14 (3 : Int32)) := u8.sI (C := C) d8 rfl
  generalize (mu_si Q8 158 14 (3 : Int32)) = Q9 at u9 r9 d9 ⊢
  have ht9 : ur m C H Q9 := ht8.trans r9
  exact mw_of (fun _ => mu_ret rfl trivial ⟨Q9, rfl, u9, ht9, d9⟩)
/-- PathProver$Prover.ask(I)V -/
abbrev mu_m339 : ev_M := (3, none, [], ev_b339)
theorem mu_g339 : mu_good mu_m339 := mu_goodk ev_k339
theorem pr_ask (h : um m H) (e : ud m H = U) (hmo : U.2.2.2.1 99 0 = some m) (hi : i < 2147483648) : mu_TV (mu_D (d + 3)) 339 [.inr (.inr (some 158)), .inl (nI i)] H (fun H1 => ((U.2.2.1 158 7).2 (i % 64) = nI i ∧ H1 = H) ∨ (¬ (U.2.2.1 158 7).2 (i % 64) = nI i ∧ um m H1 ∧ ur m C H H1 ∧ ud m H1 = upI (sekU U ((U.1 17).2 i 0) ((U.1 17).2 i 1) ((U.1 17).2 i 2) 0) 158 15 (nI i))) := by
  refine mu_meth (M := mu_m339) rfl rfl ?_
  refine mw_ht (mu_fn_of (show [0, 1].Nodup by decide)) ?_
  refine mw_go mu_g339 (k := 2) (f1 := (4, [(0, .inr (.inr (some 158))), (1, .inl (nI i))], [.inr (.inr (mu_r H 158 0))], H)) (C := [mu_is H (some 158) 8]) rfl (show mu_is H (some 158) 8 from (h.1.1.is rfl)) ?_
  rw [(h.1.1.r (p := 158) (j := 0) (q := 99) rfl)]
  refine mw_go mu_g339 (k := 1) (f1 := (7, [(0, .inr (.inr (some 158))), (1, .inl (nI i))], [.inr (.inr (mu_r H 99 0))], H)) (C := [mu_is H (some 99) 13]) rfl (show mu_is H (some 99) 13 from (h.1.1.is rfl)) ?_
  rw [(show mu_r H 99 0 = (some m) from (ud_q (U := U) (m := m) (P := 99) (j := 0) e rfl).trans hmo)]
  refine mw_go mu_g339 (k := 3) (f1 := (12, [(2, .inr (.inr (some m))), (0, .inr (.inr (some 158))), (1, .inl (nI i))], [.inr (.inr (mu_r H 158 7))], H)) (C := [mu_is H (some 158) 8]) rfl (show mu_is H (some 158) 8 from (h.1.1.is rfl)) ?_
  rw [(h.1.1.r (p := 158) (j := 7) (q := 164) rfl)]
  refine mw_go mu_g339 (k := 3) (f1 := (16, [(2, .inr (.inr (some m))), (0, .inr (.inr (some 158))), (1, .inl (nI i))], [.inl ((nI i) - (nI i) / (64 : Int32) * (64 : Int32)), .inr (.inr (some 164))], H)) (C := [¬ (64 : Int32) = 0]) rfl (show ¬ (64 : Int32) = 0 from (by decide)) ?_
  rw [(show ((nI i) - (nI i) / (64 : Int32) * (64 : Int32)) = (nI (i % 64)) from (nI_mod (a := i) (b := 64) (by omega) (by omega)))]
  refine mw_go mu_g339 (k := 1) (f1 := (17, [(2, .inr (.inr (some m))), (0, .inr (.inr (some 158))), (1, .inl (nI i))], [.inl (mu_i H 164 (nI (i % 64)).toNatClampNeg)], H)) (C := [mu_isr H (some 164) 100, vp_in (nI (i % 64)) (mu_n H 164)]) rfl (show (mu_isr H (some 164) 100) ∧ (vp_in (nI (i % 64)) (mu_n H 164)) from ⟨((h.iA e rfl rfl ((ud_q (m := m) (P := 158) (j := 7) e rfl).symm.trans (h.1.1.r (p := 158) (j := 7) (q := 164) rfl)))).r, (by rw [show mu_n H 164 = 64 from (h.1.1.a (p := 164) (x := (100, 64)) rfl).2]; exact vp_in_nI (n := i % 64) (by omega) (by decide))⟩) ?_
  rw [(show (mu_i H 164 (nI (i % 64)).toNatClampNeg) = ((U.2.2.1 158 7).2 (i % 64)) from ((congrArg (mu_i H 164) (show (nI (i % 64)).toNatClampNeg = i % 64 from nI_clamp (by omega))).trans (h.gA e rfl rfl ((ud_q (m := m) (P := 158) (j := 7) e rfl).symm.trans (h.1.1.r (p := 158) (j := 7) (q := 164) rfl)))).trans ((congrArg (fun z => z.2 (i % 64)) (show U.2.2.1 158 7 = (U.2.2.1 158 7) from rfl)).trans rfl))]
  refine mw_go mu_g339 (k := 1) (f1 := (18, [(2, .inr (.inr (some m))), (0, .inr (.inr (some 158))), (1, .inl (nI i))], [.inl (nI i), .inl ((U.2.2.1 158 7).2 (i % 64))], H)) (C := []) rfl trivial ?_
  refine mw_if (P := ((U.2.2.1 158 7).2 (i % 64)) = (nI i)) (a := 58) (b := 21) (fun _ => rfl) trivial (fun h1 => ?_) (fun h1 => ?_)
  · -- 58: ((U.2.2.1 158 7).2 (i % 64)) = (nI i)
    exact mw_of (fun _ => mu_ret rfl trivial ⟨H, rfl, Or.inl ⟨h1, rfl⟩⟩)
  · -- 21: not ((U.2.2.1 158 7).2 (i % 64)) = (nI i)
    refine mw_go mu_g339 (k := 3) (f1 := (26, [(2, .inr (.inr (some m))), (0, .inr (.inr (some 158))), (1, .inl (nI i))], [.inr (.inr (mu_r H m 17)), .inr (.inr (some 158))], H)) (C := [mu_is H (some m) 6]) rfl (show mu_is H (some m) 6 from (show mu_is H (some m) 6 from gi_im h.1.1 h.2)) ?_
    rw [(show mu_r H m 17 = some (m + 35) from (gi_mr h.1.1 h.2 (j := 17) (by decide)).trans (congrArg some (by omega)))]
    refine mw_go mu_g339 (k := 2) (f1 := (28, [(2, .inr (.inr (some m))), (0, .inr (.inr (some 158))), (1, .inl (nI i))], [.inl (0 : Int32), .inl (nI i), .inr (.inr (some (m + 35))), .inr (.inr (some 158))], H)) (C := []) rfl trivial ?_
    refine mw_cIe (fun _ => rfl) (show mu_is H (some (m + 35)) 10 from ((h.1.1.w (md_w17 h.2)).1)) (h.getr (d := (d + 1)) e (j := 17) (by decide) rfl (nI i) (c := 0) (by decide)) ?_
    rw [show (tget (U.1 17) (nI i) 0) = ((U.1 17).2 i 0) from (congrArg (fun z => tget z (nI i) 0) (show U.1 17 = (U.1 17) from rfl)).trans (tget_nI (by first | omega | decide))]
    refine mw_go mu_g339 (k := 2) (f1 := (35, [(2, .inr (.inr (some m))), (0, .inr (.inr (some 158))), (1, .inl (nI i))], [.inr (.inr (mu_r H m 17)), .inl ((U.1 17).2 i 0), .inr (.inr (some 158))], H)) (C := [mu_is H (some m) 6]) rfl (show mu_is H (some m) 6 from (show mu_is H (some m) 6 from gi_im h.1.1 h.2)) ?_
    rw [(show mu_r H m 17 = some (m + 35) from (gi_mr h.1.1 h.2 (j := 17) (by decide)).trans (congrArg some (by omega)))]
    refine mw_go mu_g339 (k := 2) (f1 := (37, [(2, .inr (.inr (some m))), (0, .inr (.inr (some 158))), (1, .inl (nI i))], [.inl (1 : Int32), .inl (nI i), .inr (.inr (some (m + 35))), .inl ((U.1 17).2 i 0), .inr (.inr (some 158))], H)) (C := []) rfl trivial ?_
    refine mw_cIe (fun _ => rfl) (show mu_is H (some (m + 35)) 10 from ((h.1.1.w (md_w17 h.2)).1)) (h.getr (d := (d + 1)) e (j := 17) (by decide) rfl (nI i) (c := 1) (by decide)) ?_
    rw [show (tget (U.1 17) (nI i) 1) = ((U.1 17).2 i 1) from (congrArg (fun z => tget z (nI i) 1) (show U.1 17 = (U.1 17) from rfl)).trans (tget_nI (by first | omega | decide))]
    refine mw_go mu_g339 (k := 2) (f1 := (44, [(2, .inr (.inr (some m))), (0, .inr (.inr (some 158))), (1, .inl (nI i))], [.inr (.inr (mu_r H m 17)), .inl ((U.1 17).2 i 1), .inl ((U.1 17).2 i 0), .inr (.inr (some 158))], H)) (C := [mu_is H (some m) 6]) rfl (show mu_is H (some m) 6 from (show mu_is H (some m) 6 from gi_im h.1.1 h.2)) ?_
    rw [(show mu_r H m 17 = some (m + 35) from (gi_mr h.1.1 h.2 (j := 17) (by decide)).trans (congrArg some (by omega)))]
    refine mw_go mu_g339 (k := 2) (f1 := (46, [(2, .inr (.inr (some m))), (0, .inr (.inr (some 158))), (1, .inl (nI i))], [.inl (2 : Int32), .inl (nI i), .inr (.inr (some (m + 35))), .inl ((U.1 17).2 i 1), .inl ((U.1 17).2 i 0), .inr (.inr (some 158))], H)) (C := []) rfl trivial ?_
    refine mw_cIe (fun _ => rfl) (show mu_is H (some (m + 35)) 10 from ((h.1.1.w (md_w17 h.2)).1)) (h.getr (d := (d + 1)) e (j := 17) (by decide) rfl (nI i) (c := 2) (by decide)) ?_
    rw [show (tget (U.1 17) (nI i) 2) = ((U.1 17).2 i 2) from (congrArg (fun z => tget z (nI i) 2) (show U.1 17 = (U.1 17) from rfl)).trans (tget_nI (by first | omega | decide))]
    refine mw_go mu_g339 (k := 1) (f1 := (50, [(2, .inr (.inr (some m))), (0, .inr (.inr (some 158))), (1, .inl (nI i))], [.inl (0 : Int32), .inl ((U.1 17).2 i 2), .inl ((U.1 17).2 i 1), .inl ((U.1 17).2 i 0), .inr (.inr (some 158))], H)) (C := []) rfl trivial ?_
    refine mw_cV (fun _ => rfl) (show mu_is H (some 158) 8 from (h.1.1.is rfl)) (pr_seek (d := d) (C := C) (x0 := ((U.1 17).2 i 0)) (x1 := ((U.1 17).2 i 1)) (x2 := ((U.1 17).2 i 2)) (x3 := (0 : Int32)) h e) (fun Q5 q5 => ?_)
    obtain ⟨u5, r5, d5⟩ := q5
    have ht5 : ur m C H Q5 := (ur.refl m C H).trans r5
    refine mw_go mu_g339 (k := 3) (f1 := (58, [(2, .inr (.inr (some m))), (0, .inr (.inr (some 158))), (1, .inl (nI i))], [], (mu_si Q5 158 15 (nI i)))) (C := [mu_is Q5 (some 158) 8]) rfl (show mu_is Q5 (some 158) 8 from (u5.1.1.is rfl)) ?_
    obtain ⟨u6, r6, d6⟩ : um m (mu_si Q5 158 15 (nI i)) ∧ ur m C Q5 (mu_si Q5 158 15 (nI i)) ∧ ud m (mu_si Q5 158 15 (nI i)) = (upI (sekU U ((U.1 17).2 i 0) ((U.1 17).2 i 1) ((U.1 17).2 i 2) (0 : Int32)) 158 15 (nI i)) := u5.sI (C := C) d5 rfl
    generalize (mu_si Q5 158 15 (nI i)) = Q6 at u6 r6 d6 ⊢
    have ht6 : ur m C H Q6 := ht5.trans r6
    exact mw_of (fun _ => mu_ret rfl trivial ⟨Q6, rfl, Or.inr ⟨h1, u6, ht6, d6⟩⟩)
/-- PathProver$Prover.outerOf(I)I -/
abbrev mu_m370 : ev_M := (3, (some .int), [], ev_b370)
theorem mu_g370 : mu_good mu_m370 := mu_goodk ev_k370
theorem pr_outer (h : um m H) (e : ud m H = U) (hmo : U.2.2.2.1 99 0 = some m) (hi : i < 2147483648) (hto : (U.1 17).2 i 1 = nI to) (ht1 : 1 ≤ to) (htb : to < 2147483648) : mu_TI (mu_D (d + 2)) 370 [.inr (.inr (some 158)), .inl (nI i)] H (fun x H1 => x = (U.1 0).2 (to - 1) 0 ∧ H1 = H) := by
  refine mu_meth (M := mu_m370) rfl rfl ?_
  refine mw_ht (mu_fn_of (show [0, 1].Nodup by decide)) ?_
  refine mw_go mu_g370 (k := 2) (f1 := (4, [(0, .inr (.inr (some 158))), (1, .inl (nI i))], [.inr (.inr (mu_r H 158 0))], H)) (C := [mu_is H (some 158) 8]) rfl (show mu_is H (some 158) 8 from (h.1.1.is rfl)) ?_
  rw [(h.1.1.r (p := 158) (j := 0) (q := 99) rfl)]
  refine mw_go mu_g370 (k := 1) (f1 := (7, [(0, .inr (.inr (some 158))), (1, .inl (nI i))], [.inr (.inr (mu_r H 99 0))], H)) (C := [mu_is H (some 99) 13]) rfl (show mu_is H (some 99) 13 from (h.1.1.is rfl)) ?_
  rw [(show mu_r H 99 0 = (some m) from (ud_q (U := U) (m := m) (P := 99) (j := 0) e rfl).trans hmo)]
  refine mw_go mu_g370 (k := 3) (f1 := (12, [(2, .inr (.inr (some m))), (0, .inr (.inr (some 158))), (1, .inl (nI i))], [.inr (.inr (mu_r H m 0))], H)) (C := [mu_is H (some m) 6]) rfl (show mu_is H (some m) 6 from (show mu_is H (some m) 6 from gi_im h.1.1 h.2)) ?_
  rw [(show mu_r H m 0 = some (m + 1) from (gi_mr h.1.1 h.2 (j := 0) (by decide)).trans (congrArg some (by omega)))]
  refine mw_go mu_g370 (k := 2) (f1 := (16, [(2, .inr (.inr (some m))), (0, .inr (.inr (some 158))), (1, .inl (nI i))], [.inr (.inr (mu_r H m 17)), .inr (.inr (some (m + 1)))], H)) (C := [mu_is H (some m) 6]) rfl (show mu_is H (some m) 6 from (show mu_is H (some m) 6 from gi_im h.1.1 h.2)) ?_
  rw [(show mu_r H m 17 = some (m + 35) from (gi_mr h.1.1 h.2 (j := 17) (by decide)).trans (congrArg some (by omega)))]
  refine mw_go mu_g370 (k := 2) (f1 := (18, [(2, .inr (.inr (some m))), (0, .inr (.inr (some 158))), (1, .inl (nI i))], [.inl (1 : Int32), .inl (nI i), .inr (.inr (some (m + 35))), .inr (.inr (some (m + 1)))], H)) (C := []) rfl trivial ?_
  refine mw_cIe (fun _ => rfl) (show mu_is H (some (m + 35)) 10 from ((h.1.1.w (md_w17 h.2)).1)) (h.getr (d := d) e (j := 17) (by decide) rfl (nI i) (c := 1) (by decide)) ?_
  rw [show (tget (U.1 17) (nI i) 1) = (nI to) from ((congrArg (fun z => tget z (nI i) 1) (show U.1 17 = (U.1 17) from rfl)).trans (tget_nI (by first | omega | decide))).trans hto]
  refine mw_go mu_g370 (k := 2) (f1 := (23, [(2, .inr (.inr (some m))), (0, .inr (.inr (some 158))), (1, .inl (nI i))], [.inl ((nI to) - (1 : Int32)), .inr (.inr (some (m + 1)))], H)) (C := []) rfl trivial ?_
  rw [(show ((nI to) - (1 : Int32)) = (nI (to - 1)) from (nI_sub (a := to) (b := 1) (by omega)))]
  refine mw_go mu_g370 (k := 1) (f1 := (24, [(2, .inr (.inr (some m))), (0, .inr (.inr (some 158))), (1, .inl (nI i))], [.inl (0 : Int32), .inl (nI (to - 1)), .inr (.inr (some (m + 1)))], H)) (C := []) rfl trivial ?_
  refine mw_cIe (fun _ => rfl) (show mu_is H (some (m + 1)) 10 from ((h.1.1.w (md_w0 h.2)).1)) (h.getr (d := d) e (j := 0) (by decide) rfl (nI (to - 1)) (c := 0) (by decide)) ?_
  rw [show (tget (U.1 0) (nI (to - 1)) 0) = ((U.1 0).2 (to - 1) 0) from (congrArg (fun z => tget z (nI (to - 1)) 0) (show U.1 0 = (U.1 0) from rfl)).trans (tget_nI (by first | omega | decide))]
  exact mw_of (fun _ => mu_ret rfl trivial ⟨((U.1 0).2 (to - 1) 0), H, rfl, rfl, rfl⟩)
/-- PathProver$Prover.newSet()I -/
abbrev mu_m357 : ev_M := (2, (some .int), [], ev_b357)
theorem mu_g357 : mu_good mu_m357 := mu_goodk ev_k357
theorem pr_newSetn (h : um m H) (e : ud m H = U) (hsc : U.2.1 158 4 = nI sc) (hscb : sc ≤ 247) (hnone : U.2.2.2.2.2 161 sc = none) : mu_TI (mu_D (d + 2)) 357 [.inr (.inr (some 158))] H (fun x H1 => x = nI sc ∧ um m H1 ∧ ur m C H H1 ∧ ∃ q, ud m H1 = upI (upR (upC U 161 sc 256) 161 sc (some q)) 158 4 (nI (sc + 1))) := by
  refine mu_meth (M := mu_m357) rfl rfl ?_
  refine mw_ht (mu_fn_of (show [0].Nodup by decide)) ?_
  refine mw_go mu_g357 (k := 2) (f1 := (4, [(0, .inr (.inr (some 158)))], [.inl (mu_i H 158 4)], H)) (C := [mu_is H (some 158) 8]) rfl (show mu_is H (some 158) 8 from (h.1.1.is rfl)) ?_
  rw [(show mu_i H 158 4 = (nI sc) from (ud_i (U := U) (m := m) (P := 158) (j := 4) e rfl).trans hsc)]
  refine mw_go mu_g357 (k := 2) (f1 := (8, [(0, .inr (.inr (some 158)))], [.inr (.inr (mu_r H 158 3)), .inl (nI sc)], H)) (C := [mu_is H (some 158) 8]) rfl (show mu_is H (some 158) 8 from (h.1.1.is rfl)) ?_
  rw [(h.1.1.r (p := 158) (j := 3) (q := 161) rfl)]
  refine mw_go mu_g357 (k := 1) (f1 := (9, [(0, .inr (.inr (some 158)))], [.inl (Int32.ofNat (mu_n H 161)), .inl (nI sc)], H)) (C := [mu_isr H (some 161) (mu_k H 161), 100 ≤ mu_k H 161]) rfl (show (mu_isr H (some 161) (mu_k H 161)) ∧ (100 ≤ mu_k H 161) from ⟨(by have z := (h.1.1.a (p := 161) (x := (104, 248)) rfl).1; rw [show mu_k H 161 = 104 from z.2.2]; exact z.r), (by have z := (h.1.1.a (p := 161) (x := (104, 248)) rfl).1; rw [show mu_k H 161 = 104 from z.2.2]; decide)⟩) ?_
  rw [show (Int32.ofNat (mu_n H 161)) = nI 248 from congrArg Int32.ofNat (show mu_n H 161 = 248 from (h.1.1.a (p := 161) (x := (104, 248)) rfl).2)]
  refine mw_go mu_g357 (k := 2) (f1 := (11, [(0, .inr (.inr (some 158)))], [.inl ((nI 248) - (1 : Int32)), .inl (nI sc)], H)) (C := []) rfl trivial ?_
  rw [(show ((nI 248) - (1 : Int32)) = (nI (248 - 1)) from (nI_sub (a := 248) (b := 1) (by omega)))]
  refine mw_cIe (fun _ => rfl) trivial (mu_min_ok (d := d) (nI sc) (nI (248 - 1))) ?_
  rw [show (mu_min (nI sc) (nI (248 - 1))) = nI sc from (mu_min_n (a := sc) (b := 247) (by omega) (by omega)).trans (congrArg nI (Nat.min_eq_left hscb))]
  refine mw_go mu_g357 (k := 3) (f1 := (19, [(1, .inl (nI sc)), (0, .inr (.inr (some 158)))], [.inr (.inr (mu_r H 158 3))], H)) (C := [mu_is H (some 158) 8]) rfl (show mu_is H (some 158) 8 from (h.1.1.is rfl)) ?_
  rw [(h.1.1.r (p := 158) (j := 3) (q := 161) rfl)]
  refine mw_go mu_g357 (k := 1) (f1 := (20, [(1, .inl (nI sc)), (0, .inr (.inr (some 158)))], [.inl (nI sc), .inr (.inr (some 161))], H)) (C := []) rfl trivial ?_
  have ka3 := um.gP0 h e (plp161 (show sc < 248 by omega)) (show U.2.2.2.2.2 161 sc = none from hnone)
  refine mw_go mu_g357 (k := 1) (f1 := (21, [(1, .inl (nI sc)), (0, .inr (.inr (some 158)))], [.inr (.inr (mu_r H 161 (nI sc).toNatClampNeg))], H)) (C := [mu_is H (some 161) (mu_k H 161), 103 ≤ mu_k H 161 ∧ mu_k H 161 ≤ 110 ∧ mu_k H 161 ≠ 108, vp_in (nI sc) (mu_n H 161)]) rfl (show (mu_is H (some 161) (mu_k H 161)) ∧ (103 ≤ mu_k H 161 ∧ mu_k H 161 ≤ 110 ∧ mu_k H 161 ≠ 108) ∧ (vp_in (nI sc) (mu_n H 161)) from ⟨(by have z := (h.1.1.a (p := 161) (x := (104, 248)) rfl).1; rw [show mu_k H 161 = 104 from z.2.2]; exact z), (by have z := (h.1.1.a (p := 161) (x := (104, 248)) rfl).1; rw [show mu_k H 161 = 104 from z.2.2]; decide), (by rw [show mu_n H 161 = 248 from (h.1.1.a (p := 161) (x := (104, 248)) rfl).2]; exact vp_in_nI (n := sc) (by omega) (by decide))⟩) ?_
  rw [show (mu_r H 161 (nI sc).toNatClampNeg) = none from (congrArg (mu_r H 161) (show (nI sc).toNatClampNeg = sc from nI_clamp (by omega))).trans ka3]
  refine mw_if (P := none = none) (a := 24) (b := 35) (fun _ => rfl) (show none ≠ some 3000000 from (fun z => by cases z)) (fun _ => ?_) (fun h4 => absurd rfl h4)
  refine mw_go mu_g357 (k := 2) (f1 := (28, [(1, .inl (nI sc)), (0, .inr (.inr (some 158)))], [.inr (.inr (mu_r H 158 3))], H)) (C := [mu_is H (some 158) 8]) rfl (show mu_is H (some 158) 8 from (h.1.1.is rfl)) ?_
  rw [(h.1.1.r (p := 158) (j := 3) (q := 161) rfl)]
  refine mw_go mu_g357 (k := 2) (f1 := (32, [(1, .inl (nI sc)), (0, .inr (.inr (some 158)))], [.inl (256 : Int32), .inl (nI sc), .inr (.inr (some 161))], H)) (C := []) rfl trivial ?_
  refine mw_go mu_g357 (k := 2) (f1 := (35, [(1, .inl (nI sc)), (0, .inr (.inr (some 158)))], [], (mu_sr (mu_nw H 102 (256 : Int32).toNatClampNeg (256 : Int32).toNatClampNeg) 161 (nI sc).toNatClampNeg (some (mu_z H))))) (C := [¬ (256 : Int32) < 0, (256 : Int32).toNatClampNeg * ev_bytes 2 ≤ 536870912, mu_z H + 1 ≤ 1000000, mu_is (mu_nw H 102 (256 : Int32).toNatClampNeg (256 : Int32).toNatClampNeg) (some 161) 104, mu_is (mu_nw H 102 (256 : Int32).toNatClampNeg (256 : Int32).toNatClampNeg) (some (mu_z H)) 102, vp_in (nI sc) (mu_n (mu_nw H 102 (256 : Int32).toNatClampNeg (256 : Int32).toNatClampNeg) 161)]) rfl (show (¬ (256 : Int32) < 0) ∧ ((256 : Int32).toNatClampNeg * ev_bytes 2 ≤ 536870912) ∧ (mu_z H + 1 ≤ 1000000) ∧ (mu_is (mu_nw H 102 (256 : Int32).toNatClampNeg (256 : Int32).toNatClampNeg) (some 161) 104) ∧ (mu_is (mu_nw H 102 (256 : Int32).toNatClampNeg (256 : Int32).toNatClampNeg) (some (mu_z H)) 102) ∧ (vp_in (nI sc) (mu_n (mu_nw H 102 (256 : Int32).toNatClampNeg (256 : Int32).toNatClampNeg) 161)) from ⟨(by decide), (by rw [(show (256 : Int32).toNatClampNeg = 256 from by decide)]; decide), h.1.1.z, (mu_is_nw (h.1.1.a (p := 161) (x := (104, 248)) rfl).1), ⟨rfl, Nat.lt_succ_self _, if_pos rfl⟩, (by rw [show mu_n (mu_nw H 102 (256 : Int32).toNatClampNeg (256 : Int32).toNatClampNeg) 161 = 248 from (if_neg (show ¬ 161 = mu_z H from fun y => by have y2 := (h.1.1.a (p := 161) (x := (104, 248)) rfl).1.2.1; have y3 : 161 < mu_z H := y2; omega)).trans (h.1.1.a (p := 161) (x := (104, 248)) rfl).2]; exact vp_in_nI (n := sc) (by omega) (by decide))⟩) ?_
  rw [(show (256 : Int32).toNatClampNeg = 256 from by decide), (show (nI sc).toNatClampNeg = sc from nI_clamp (by omega))]
  obtain ⟨nq5, hnq5⟩ : ∃ q, q = mu_z H := ⟨_, rfl⟩
  obtain ⟨u5, r5, d5⟩ : um m (mu_sr (mu_nw H 102 256 256) 161 sc (some (mu_z H))) ∧ ur m C H (mu_sr (mu_nw H 102 256 256) 161 sc (some (mu_z H))) ∧ ud m (mu_sr (mu_nw H 102 256 256) 161 sc (some (mu_z H))) = upR (upC U 161 sc 256) 161 sc (some nq5) := (by have z := h.newS (C := C) (P := 161) (J := sc) (N := 256) (by decide) (plp161 (by omega)) (Or.inl ka3) rfl; rw [e, ← hnq5] at z; rw [← hnq5]; exact z)
  generalize (mu_sr (mu_nw H 102 256 256) 161 sc (some (mu_z H))) = Q5 at u5 r5 d5 ⊢
  have ht5 : ur m C H Q5 := (ur.refl m C H).trans r5
  refine mw_go mu_g357 (k := 4) (f1 := (39, [(1, .inl (nI sc)), (0, .inr (.inr (some 158)))], [.inl ((nI sc) + (1 : Int32)), .inr (.inr (some 158))], Q5)) (C := []) rfl trivial ?_
  rw [(show ((nI sc) + (1 : Int32)) = (nI (sc + 1)) from (nI_add sc 1))]
  refine mw_go mu_g357 (k := 1) (f1 := (42, [(1, .inl (nI sc)), (0, .inr (.inr (some 158)))], [], (mu_si Q5 158 4 (nI (sc + 1))))) (C := [mu_is Q5 (some 158) 8]) rfl (show mu_is Q5 (some 158) 8 from (u5.1.1.is rfl)) ?_
  obtain ⟨u6, r6, d6⟩ : um m (mu_si Q5 158 4 (nI (sc + 1))) ∧ ur m C Q5 (mu_si Q5 158 4 (nI (sc + 1))) ∧ ud m (mu_si Q5 158 4 (nI (sc + 1))) = (upI (upR (upC U 161 sc 256) 161 sc (some nq5)) 158 4 (nI (sc + 1))) := u5.sI (C := C) d5 rfl
  generalize (mu_si Q5 158 4 (nI (sc + 1))) = Q6 at u6 r6 d6 ⊢
  have ht6 : ur m C H Q6 := ht5.trans r6
  refine mw_go mu_g357 (k := 1) (f1 := (43, [(1, .inl (nI sc)), (0, .inr (.inr (some 158)))], [.inl (nI sc)], Q6)) (C := []) rfl trivial ?_
  exact mw_of (fun _ => mu_ret rfl trivial ⟨(nI sc), Q6, rfl, rfl, u6, ht6, nq5, d6⟩)
theorem pr_newSets (h : um m H) (e : ud m H = U) (hsc : U.2.1 158 4 = nI sc) (hscb : sc ≤ 247) (hset : LSN U 161 sc gq 256) : mu_TI (mu_D (d + 2)) 357 [.inr (.inr (some 158))] H (fun x H1 => x = nI sc ∧ um m H1 ∧ ur m C H H1 ∧ ud m H1 = upI U 158 4 (nI (sc + 1))) := by
  refine mu_meth (M := mu_m357) rfl rfl ?_
  refine mw_ht (mu_fn_of (show [0].Nodup by decide)) ?_
  refine mw_go mu_g357 (k := 2) (f1 := (4, [(0, .inr (.inr (some 158)))], [.inl (mu_i H 158 4)], H)) (C := [mu_is H (some 158) 8]) rfl (show mu_is H (some 158) 8 from (h.1.1.is rfl)) ?_
  rw [(show mu_i H 158 4 = (nI sc) from (ud_i (U := U) (m := m) (P := 158) (j := 4) e rfl).trans hsc)]
  refine mw_go mu_g357 (k := 2) (f1 := (8, [(0, .inr (.inr (some 158)))], [.inr (.inr (mu_r H 158 3)), .inl (nI sc)], H)) (C := [mu_is H (some 158) 8]) rfl (show mu_is H (some 158) 8 from (h.1.1.is rfl)) ?_
  rw [(h.1.1.r (p := 158) (j := 3) (q := 161) rfl)]
  refine mw_go mu_g357 (k := 1) (f1 := (9, [(0, .inr (.inr (some 158)))], [.inl (Int32.ofNat (mu_n H 161)), .inl (nI sc)], H)) (C := [mu_isr H (some 161) (mu_k H 161), 100 ≤ mu_k H 161]) rfl (show (mu_isr H (some 161) (mu_k H 161)) ∧ (100 ≤ mu_k H 161) from ⟨(by have z := (h.1.1.a (p := 161) (x := (104, 248)) rfl).1; rw [show mu_k H 161 = 104 from z.2.2]; exact z.r), (by have z := (h.1.1.a (p := 161) (x := (104, 248)) rfl).1; rw [show mu_k H 161 = 104 from z.2.2]; decide)⟩) ?_
  rw [show (Int32.ofNat (mu_n H 161)) = nI 248 from congrArg Int32.ofNat (show mu_n H 161 = 248 from (h.1.1.a (p := 161) (x := (104, 248)) rfl).2)]
  refine mw_go mu_g357 (k := 2) (f1 := (11, [(0, .inr (.inr (some 158)))], [.inl ((nI 248) - (1 : Int32)), .inl (nI sc)], H)) (C := []) rfl trivial ?_
  rw [(show ((nI 248) - (1 : Int32)) = (nI (248 - 1)) from (nI_sub (a := 248) (b := 1) (by omega)))]
  refine mw_cIe (fun _ => rfl) trivial (mu_min_ok (d := d) (nI sc) (nI (248 - 1))) ?_
  rw [show (mu_min (nI sc) (nI (248 - 1))) = nI sc from (mu_min_n (a := sc) (b := 247) (by omega) (by omega)).trans (congrArg nI (Nat.min_eq_left hscb))]
  refine mw_go mu_g357 (k := 3) (f1 := (19, [(1, .inl (nI sc)), (0, .inr (.inr (some 158)))], [.inr (.inr (mu_r H 158 3))], H)) (C := [mu_is H (some 158) 8]) rfl (show mu_is H (some 158) 8 from (h.1.1.is rfl)) ?_
  rw [(h.1.1.r (p := 158) (j := 3) (q := 161) rfl)]
  refine mw_go mu_g357 (k := 1) (f1 := (20, [(1, .inl (nI sc)), (0, .inr (.inr (some 158)))], [.inl (nI sc), .inr (.inr (some 161))], H)) (C := []) rfl trivial ?_
  have ka3 : mu_r H 161 sc = some gq := (dR_pool e (Or.inl rfl) (plp161 (show sc < 248 by omega))).trans (LSN.ref (show LSN U 161 sc gq _ from hset) (Or.inl rfl))
  refine mw_go mu_g357 (k := 1) (f1 := (21, [(1, .inl (nI sc)), (0, .inr (.inr (some 158)))], [.inr (.inr (mu_r H 161 (nI sc).toNatClampNeg))], H)) (C := [mu_is H (some 161) (mu_k H 161), 103 ≤ mu_k H 161 ∧ mu_k H 161 ≤ 110 ∧ mu_k H 161 ≠ 108, vp_in (nI sc) (mu_n H 161)]) rfl (show (mu_is H (some 161) (mu_k H 161)) ∧ (103 ≤ mu_k H 161 ∧ mu_k H 161 ≤ 110 ∧ mu_k H 161 ≠ 108) ∧ (vp_in (nI sc) (mu_n H 161)) from ⟨(by have z := (h.1.1.a (p := 161) (x := (104, 248)) rfl).1; rw [show mu_k H 161 = 104 from z.2.2]; exact z), (by have z := (h.1.1.a (p := 161) (x := (104, 248)) rfl).1; rw [show mu_k H 161 = 104 from z.2.2]; decide), (by rw [show mu_n H 161 = 248 from (h.1.1.a (p := 161) (x := (104, 248)) rfl).2]; exact vp_in_nI (n := sc) (by omega) (by decide))⟩) ?_
  rw [show (mu_r H 161 (nI sc).toNatClampNeg) = (some gq) from (congrArg (mu_r H 161) (show (nI sc).toNatClampNeg = sc from nI_clamp (by omega))).trans ka3]
  refine mw_if (P := (some gq) = none) (a := 24) (b := 35) (fun _ => rfl) (show (some gq) ≠ some 3000000 from (fun z => by have z2 := LSN.ltz h e hset; have z3 := Option.some.inj z; omega)) (fun h4 => absurd h4 (fun z => by cases z)) (fun _ => ?_)
  refine mw_go mu_g357 (k := 4) (f1 := (39, [(1, .inl (nI sc)), (0, .inr (.inr (some 158)))], [.inl ((nI sc) + (1 : Int32)), .inr (.inr (some 158))], H)) (C := []) rfl trivial ?_
  rw [(show ((nI sc) + (1 : Int32)) = (nI (sc + 1)) from (nI_add sc 1))]
  refine mw_go mu_g357 (k := 1) (f1 := (42, [(1, .inl (nI sc)), (0, .inr (.inr (some 158)))], [], (mu_si H 158 4 (nI (sc + 1))))) (C := [mu_is H (some 158) 8]) rfl (show mu_is H (some 158) 8 from (h.1.1.is rfl)) ?_
  obtain ⟨u5, r5, d5⟩ : um m (mu_si H 158 4 (nI (sc + 1))) ∧ ur m C H (mu_si H 158 4 (nI (sc + 1))) ∧ ud m (mu_si H 158 4 (nI (sc + 1))) = (upI U 158 4 (nI (sc + 1))) := h.sI (C := C) e rfl
  generalize (mu_si H 158 4 (nI (sc + 1))) = Q5 at u5 r5 d5 ⊢
  have ht5 : ur m C H Q5 := (ur.refl m C H).trans r5
  refine mw_go mu_g357 (k := 1) (f1 := (43, [(1, .inl (nI sc)), (0, .inr (.inr (some 158)))], [.inl (nI sc)], Q5)) (C := []) rfl trivial ?_
  exact mw_of (fun _ => mu_ret rfl trivial ⟨(nI sc), Q5, rfl, rfl, u5, ht5, d5⟩)
end ProverSmall2
