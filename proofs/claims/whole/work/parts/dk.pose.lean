/-! RELATION: a STATE is posed -/
section Pose
variable {H : mu_H} {U V : Ud} {m d P n k j q N us nf s bf bt nb b mn : Nat} {C : Nat → Nat} {bo : Nat → Nat → Nat} {fi f dg bs lv : Nat → Nat} {nm tm : Nat → Int32} {oid : Nat → Nat → Nat} {S : Nat → Nat → Bool} {z : Nat → Nat} {p : Nat → Bool} {mk : Int32}
/-- the factors: masks, tables, what stands in them -/
def FAC (V : Ud) (P : Nat) (f : Nat → Nat) (nf : Nat) (nm tm : Nat → Int32) (bs lv : Nat → Nat) (oid : Nat → Nat → Nat) (N : Nat) (S : Nat → Nat → Bool) (p : Nat → Bool) : Prop := ((V.1 24).1 = nf ∧ nf ≤ 67108864 ∧ (V.2.2.1 129 4).1 ≤ 67108864) ∧ ∀ q, q < nf → ((V.1 24).2 q 0 = nm q ∧ (V.1 24).2 q 1 = tm q ∧ (V.1 24).2 q 2 = nI (bs q) ∧ (V.1 24).2 q 4 = lvz (tm q) (lv q)) ∧ TMK (tm q) (lv q) P ∧ bs q + pm (nm q) f P ≤ (V.2.2.1 129 4).1 ∧ ∀ c, c < pm (nm q) f P → (V.2.2.1 129 4).2 (bs q + c) = nI (oid q c) ∧ oid q c < N ∧ p (oid q c) = true ∧ ∀ x, S (oid q c) x = true → x < pm (tm q) f P
/-- the digit of a STATE at a place -/
def dgz (f : Nat → Nat) (P s k : Nat) : Nat := s / pd f (k + 1) (P - 1 - k) % f k
theorem ixz_lt (h : ∀ k, k < n → dg k < f k) : ixz mk f dg n < pm mk f n := by
  induction n with
  | zero => exact Nat.one_pos
  | succ n ih =>
    have i1 := ih (fun k hk => h k (by omega))
    have i2 := h n (by omega)
    show (if mb mk n = 0 then ixz mk f dg n else ixz mk f dg n * f n + dg n) < pm mk f (n + 1)
    unfold pm
    by_cases e : mb mk n = 0
    · rw [if_pos e, if_pos e]
      omega
    · rw [if_neg e, if_neg e]
      have : (ixz mk f dg n + 1) * f n ≤ pm mk f n * f n := Nat.mul_le_mul_right _ i1
      rw [Nat.add_mul, Nat.one_mul] at this
      omega
theorem pm_one0 (hk : k < 32) : ∀ n, n ≤ k → pm ((1 : Int32) <<< (nI k &&& 31)) f n = 1
  | 0, _ => rfl
  | n + 1, h => by
    have ih := pm_one0 hk n (by omega)
    have e : mb ((1 : Int32) <<< (nI k &&& 31)) n = 0 := Decidable.byContradiction (fun y => by have := (mb_one hk (by omega)).mp y; omega)
    unfold pm
    rw [ih, if_pos e]
theorem pm_one (hk : k < P) (hP : P ≤ 14) : pm ((1 : Int32) <<< (nI k &&& 31)) f P = f k := by
  have key : ∀ n, k < n → n ≤ P → pm ((1 : Int32) <<< (nI k &&& 31)) f n = f k := by
    intro n
    induction n with
    | zero => exact fun h => absurd h (Nat.not_lt_zero _)
    | succ n ih =>
      intro h1 h2
      unfold pm
      by_cases e : n = k
      · rw [pm_one0 (by omega) n (by omega), if_neg ((mb_one (by omega) (by omega)).mpr e), e, Nat.one_mul]
      · have e0 : mb ((1 : Int32) <<< (nI k &&& 31)) n = 0 := Decidable.byContradiction (fun y => e ((mb_one (by omega) (by omega)).mp y))
        rw [ih (by omega) (by omega), if_pos e0, Nat.mul_one]
  exact key P hk (Nat.le_refl _)
/-- what is held on the sides of now -/
def PSD (U V : Ud) (k : Nat) (f dg : Nat → Nat) : Prop := (V.1 22).1 = (U.1 22).1 ∧ (∀ r c, ¬ (r < k ∧ c = 2) → (V.1 22).2 r c = (U.1 22).2 r c) ∧ ∀ r, r < k → (V.1 22).2 r 2 = (U.2.2.1 99 8).2 (sm f 0 r + dg r)
theorem PSD.step {x : Int32} (h : PSD U V k f dg) (h28 : (U.1 22).1 = 28) (hk : k < 28) (hx : x = (U.2.2.1 99 8).2 (sm f 0 k + dg k)) : PSD U (upT V (ax 22 V.1 (nI k) 2 x)) (k + 1) f dg := by
  obtain ⟨h1, h2, h3⟩ := h
  have e : (upT V (ax 22 V.1 (nI k) 2 x)).1 22 = ((V.1 22).1, fun a b => if a = k ∧ b = 2 then x else (V.1 22).2 a b) := by
    show (fu V.1 22 (tset (wa 22) (V.1 22) (nI k) 2 x)) 22 = _
    rw [fu_at]
    unfold tset
    rw [if_neg (nI_pos (by omega)), nI_clamp (by omega), if_pos ⟨by omega, by decide⟩]
  unfold PSD
  rw [e]
  refine ⟨h1, fun r c hr => ?_, fun r hr => ?_⟩
  · show (if r = k ∧ c = 2 then x else (V.1 22).2 r c) = _
    rw [if_neg (fun y => hr ⟨by omega, y.2⟩)]
    exact h2 r c (fun y => hr ⟨by omega, y.2⟩)
  · show (if r = k ∧ 2 = 2 then x else (V.1 22).2 r 2) = _
    by_cases e0 : r = k
    · rw [if_pos ⟨e0, rfl⟩, e0, hx]
    · rw [if_neg (fun y => e0 y.1)]
      exact h3 r (by omega)
/-- outcomes that have been noted -/
def OUT (U V : Ud) (fi : Nat → Nat) (q : Nat) (oc : Nat → Nat) : Prop := (V.1 24).1 = (U.1 24).1 ∧ (∀ r c, ¬ (c = 3 ∧ ∃ i, i < q ∧ fi i = r) → (V.1 24).2 r c = (U.1 24).2 r c) ∧ ∀ i, i < q → (V.1 24).2 (fi i) 3 = nI (oc (fi i))
theorem OUT.step {fi oc : Nat → Nat} (h : OUT U V fi q oc) (hq : fi q < (U.1 24).1) (hb : (U.1 24).1 ≤ 67108864) (hin : ∀ i, i < q → ¬ fi i = fi q) : OUT U (upT V (ax 24 V.1 (nI (fi q)) 3 (nI (oc (fi q))))) fi (q + 1) oc := by
  obtain ⟨h1, h2, h3⟩ := h
  have e : (upT V (ax 24 V.1 (nI (fi q)) 3 (nI (oc (fi q))))).1 24 = ((V.1 24).1, fun a b => if a = fi q ∧ b = 3 then nI (oc (fi q)) else (V.1 24).2 a b) := by
    show (fu V.1 24 (tset (wa 24) (V.1 24) (nI (fi q)) 3 (nI (oc (fi q))))) 24 = _
    rw [fu_at]
    unfold tset
    rw [if_neg (nI_pos (by omega)), nI_clamp (by omega), if_pos ⟨by omega, by decide⟩]
  unfold OUT
  rw [e]
  refine ⟨h1, fun r c hr => ?_, fun i hi => ?_⟩
  · show (if r = fi q ∧ c = 3 then nI (oc (fi q)) else (V.1 24).2 r c) = _
    rw [if_neg (fun y => hr ⟨y.2, q, by omega, y.1.symm⟩)]
    exact h2 r c (fun y => hr ⟨y.1, by obtain ⟨i, i1, i2⟩ := y.2; exact ⟨i, by omega, i2⟩⟩)
  · show (if fi i = fi q ∧ 3 = 3 then nI (oc (fi q)) else (V.1 24).2 (fi i) 3) = _
    by_cases e0 : i = q
    · rw [e0, if_pos ⟨rfl, rfl⟩]
    · rw [if_neg (fun y => hin i (by omega) y.1)]
      exact h3 i (by omega)
theorem OUT.eq {X : Ud} {fi oc : Nat → Nat} (h : OUT U V fi q oc) (e : X.1 24 = V.1 24) : OUT U X fi q oc := by
  unfold OUT at h ⊢
  rw [e]
  exact h
/-- what the tables of one VARIABLE leave, behind q of the rows that count -/
def SNG (tm : Nat → Int32) (lv : Nat → Nat) (S : Nat → Nat → Bool) (oc fi : Nat → Nat) (q k x : Nat) : Prop := ∀ r, r < q → lv (fi r) = k → tm (fi r) = ((1 : Int32) <<< (nI k &&& 31)) → S (oc (fi r)) x = true
theorem SOK.empty {id : Nat} (h : SOK U N us S z p) (hid : id < N) (hz : z id = 0) (x : Nat) : S id x = false := by
  obtain ⟨ls, -, -, e⟩ := h.2.2.2.2.2.2 id hid
  rw [e, hz]
  rfl
def F275 : Uf := ⟨[22, 24], [(129, 19), (129, 20), (129, 21), (129, 11)], [(129, 16), (129, 13), (129, 12)], [], [146], false⟩
theorem dgz_max (hf : ∀ k, 1 ≤ f k) : nI (s / max 1 (pd f (k + 1) (P - 1 - k)) % max 1 (f k)) = nI (dgz f P s k) := by
  have h1 := hf k
  have h2 : 1 ≤ pd f (k + 1) (P - 1 - k) := pd_pos (fun k _ _ => hf k)
  unfold dgz
  rw [Nat.max_eq_right h1, Nat.max_eq_right h2]
theorem dgz_lt (hf : ∀ k, 1 ≤ f k) : dgz f P s k < f k := Nat.mod_lt _ (hf k)
def F275a : Uf := ⟨[22], [], [(129, 16), (129, 13)], [], [], false⟩
def F275b : Uf := ⟨[24], [(129, 19), (129, 20)], [(129, 12), (129, 13)], [], [146], false⟩
/-- PathProver$Relation.pose(II)Z -/
abbrev mu_m275 : ev_M := (9, (some .boolean), [], ev_b275)
theorem mu_g275 : mu_good mu_m275 := mu_goodk ev_k275
theorem rl_pose (h : um m H) (e : ud m H = U) (hS : spx m U P f) (hf1 : ∀ k, 1 ≤ f k) (hs : s < pd f 0 P) (h28 : (U.1 22).1 = 28) (hz : BZ U bf bt) (hl12 : sm f 0 P ≤ (U.2.2.1 129 12).1) (hl12b : (U.2.2.1 129 12).1 < 2147483648) (hSK : SOK U N us S z p) (hFA : FAC U P f nf nm tm bs lv oid N S p) (hB : BRT U nb bo) (hBI : BIN nb b) (hBO : BOK nb bo 0 nf) (hfe : fi = fiz nb bo b 0 nf) (hmn : mn = mnz nb bo b 0 nf) : mu_TI (mu_D (d + 6)) 275 [.inr (.inr (some 129)), .inl (nI s), .inl (nI b)] H (fun x H1 => um m H1 ∧ ur m C H H1 ∧ uq F275 U (ud m H1) ∧ (ud m H1).2.1 129 21 = nI b ∧ (ud m H1).2.1 129 11 = 0 ∧ (∃ bf' bt', BZ (ud m H1) bf' bt') ∧ ((x = 0 ∧ ∃ i, i < mn ∧ ∀ y, S ((fun r => oid r (ixz (nm r) f (dgz f P s) P)) (fi i)) y = false) ∨ (x = 1 ∧ (∀ j, j < P → ((ud m H1).2.2.1 129 16).2 j = nI (dgz f P s j)) ∧ (∀ k, k < P → OPT (ud m H1) (sm f 0 k) (f k) k (SNG tm lv S (fun r => oid r (ixz (nm r) f (dgz f P s) P)) fi mn k)) ∧ OUT U (ud m H1) fi mn (fun r => oid r (ixz (nm r) f (dgz f P s) P)) ∧ PSD U (ud m H1) P f (dgz f P s)))) := by
  obtain ⟨⟨s4, s10, s11, s12⟩, hk5, ⟨g8, g8b, g18, g18b⟩, ⟨gP, gpd, gsm⟩, hsp, hmo⟩ := (show spx m U P f from hS)
  have hnb0 := hFA.1
  have hbn : b < nb := by rcases hBI with ⟨y1, y2⟩ | ⟨y1, y2⟩ <;> omega
  have hle : b = 0 ∨ bo b 0 ≤ enz nb bo b 0 nf := by rcases hBI with ⟨y1, y2⟩ | ⟨y1, y2⟩; (exact Or.inl y1); exact Or.inr (hBO.2 b y1 y2).2.1
  have hfi : ∀ q, q < mn → fi q < nf := fun q hq => by rw [hfe]; exact (fiz_lt hBI hBO (by rw [← hmn]; exact hq)).1
  have hfA : ∀ q, q < cmz nb bo 0 nf → fi q = q := fun q hq => by rw [hfe]; exact if_pos hq
  have hfB : ∀ q, q < mn → ¬ q < cmz nb bo 0 nf → nI q + ((U.1 27).2 b 0 - nI (cmz nb bo 0 nf)) = nI (fi q) := fun q hq hc => by rw [(hB.2.2 b 0 hbn (by decide)).1, hfe]; exact fiz_own hBI hBO (by rw [← hmn]; exact hq) hc
  have hfJ : ∀ i j, fi i = fi j → i < mn → j < mn → i = j := fun i j h1 h2 h3 => by rw [hfe] at h1; exact fiz_inj hBI hBO h1 (by rw [← hmn]; exact h2) (by rw [← hmn]; exact h3)
  have hnb1 := hB.1
  have hnb2 := hB.2.1
  have hcm := (cmz_le hBI hBO).1
  have hmn2 : mn ≤ 134217728 := by rw [hmn]; unfold mnz owz; have := hBO.1; split; omega; (have y := hBO.2 b (by omega) hbn; omega)
  refine mu_meth (M := mu_m275) rfl rfl ?_
  refine mw_ht (mu_fn_of (show [0, 1, 2].Nodup by decide)) ?_
  refine mw_go mu_g275 (k := 3) (f1 := (5, [(0, .inr (.inr (some 129))), (1, .inl (nI s)), (2, .inl (nI b))], [], (mu_si H 129 21 (nI b)))) (C := [mu_is H (some 129) 9]) rfl (show mu_is H (some 129) 9 from (h.1.1.is rfl)) ?_
  obtain ⟨u1, r1, d1⟩ : um m (mu_si H 129 21 (nI b)) ∧ ur m C H (mu_si H 129 21 (nI b)) ∧ ud m (mu_si H 129 21 (nI b)) = (upI U 129 21 (nI b)) := h.sI (C := C) e rfl
  generalize (mu_si H 129 21 (nI b)) = Q1 at u1 r1 d1 ⊢
  have qf1 : uq F275 U (upI U 129 21 (nI b)) := (uq.refl F275 U).I rfl
  have ht1 : ur m C H Q1 := (ur.refl m C H).trans r1
  refine mw_go mu_g275 (k := 3) (f1 := (10, [(0, .inr (.inr (some 129))), (1, .inl (nI s)), (2, .inl (nI b))], [], (mu_si Q1 129 11 (0 : Int32)))) (C := [mu_is Q1 (some 129) 9]) rfl (show mu_is Q1 (some 129) 9 from (u1.1.1.is rfl)) ?_
  obtain ⟨u2, r2, d2⟩ : um m (mu_si Q1 129 11 (0 : Int32)) ∧ ur m C Q1 (mu_si Q1 129 11 (0 : Int32)) ∧ ud m (mu_si Q1 129 11 (0 : Int32)) = (upI (upI U 129 21 (nI b)) 129 11 (0 : Int32)) := u1.sI (C := C) d1 rfl
  generalize (mu_si Q1 129 11 (0 : Int32)) = Q2 at u2 r2 d2 ⊢
  have qf2 : uq F275 U (upI (upI U 129 21 (nI b)) 129 11 (0 : Int32)) := qf1.I rfl
  have ht2 : ur m C H Q2 := ht1.trans r2
  refine mw_go mu_g275 (k := 2) (f1 := (12, [(3, .inl (0 : Int32)), (0, .inr (.inr (some 129))), (1, .inl (nI s)), (2, .inl (nI b))], [], Q2)) (C := []) rfl trivial ?_
  show mu_W _ _ (12, [(3, .inl (nI 0)), (0, .inr (.inr (some 129))), (1, .inl (nI s)), (2, .inl (nI b))], [], Q2) _
  refine mw_sub (L' := [(3, .inl (nI 0)), (0, .inr (.inr (some 129))), (1, .inl (nI s))]) (by simp) ?_
  refine mw_down (α := Nat × mu_H) (fun zs => (12, [(3, .inl (nI zs.1)), (0, .inr (.inr (some 129))), (1, .inl (nI s))], [], zs.2)) (fun zs => P - zs.1) (fun zs => um m zs.2 ∧ ur m C H zs.2 ∧ (uq F275a (upI (upI U 129 21 (nI b)) 129 11 (0 : Int32)) (ud m zs.2)) ∧ (zs.1 ≤ P) ∧ (∀ j, j < zs.1 → ((ud m zs.2).2.2.1 129 16).2 j = nI (dgz f P s j)) ∧ (∀ j, j < zs.1 → ((ud m zs.2).2.2.1 129 13).2 j = -1) ∧ (PSD U (ud m zs.2) zs.1 f (dgz f P s))) (fun zs hza iha => ?_) (0, Q2) ⟨u2, ht2, (show uq F275a (upI (upI U 129 21 (nI b)) 129 11 (0 : Int32)) (ud m Q2) from by rw [d2]; exact uq.refl _ _), (show 0 ≤ P from (by omega)), (show ∀ j, j < 0 → ((ud m Q2).2.2.1 129 16).2 j = nI (dgz f P s j) from by rw [d2]; exact (fun j hj => absurd hj (Nat.not_lt_zero _))), (show ∀ j, j < 0 → ((ud m Q2).2.2.1 129 13).2 j = -1 from by rw [d2]; exact (fun j hj => absurd hj (Nat.not_lt_zero _))), (show PSD U (ud m Q2) 0 f (dgz f P s) from by rw [d2]; exact ⟨rfl, fun _ _ _ => rfl, fun r hr => absurd hr (Nat.not_lt_zero _)⟩)⟩
  obtain ⟨k, Hsa⟩ := zs
  obtain ⟨ua, hta, da, hk, hdg, hoc, hps⟩ := hza
  have ua : um m Hsa := ua
  have hta : ur m C H Hsa := hta
  have zza : uq F275a (upI (upI U 129 21 (nI b)) 129 11 (0 : Int32)) (ud m Hsa) := da
  have hk : k ≤ P := hk
  have hdg : ∀ j, j < k → ((ud m Hsa).2.2.1 129 16).2 j = nI (dgz f P s j) := hdg
  have hoc : ∀ j, j < k → ((ud m Hsa).2.2.1 129 13).2 j = -1 := hoc
  have hps : PSD U (ud m Hsa) k f (dgz f P s) := hps
  obtain ⟨Va, da⟩ : ∃ V, ud m Hsa = V := ⟨_, rfl⟩
  rw [da] at zza hdg hoc hps
  have qfa : uq F275 U Va := qf2.tr zza rfl
  show mu_W _ _ (12, [(3, .inl (nI k)), (0, .inr (.inr (some 129))), (1, .inl (nI s))], [], Hsa) _
  refine mw_go mu_g275 (k := 3) (f1 := (17, [(3, .inl (nI k)), (0, .inr (.inr (some 129))), (1, .inl (nI s))], [.inr (.inr (mu_r Hsa 129 0)), .inl (nI k)], Hsa)) (C := [mu_is Hsa (some 129) 9]) rfl (show mu_is Hsa (some 129) 9 from (ua.1.1.is rfl)) ?_
  rw [(ua.1.1.r (p := 129) (j := 0) (q := 99) rfl)]
  refine mw_go mu_g275 (k := 1) (f1 := (20, [(3, .inl (nI k)), (0, .inr (.inr (some 129))), (1, .inl (nI s))], [.inl (mu_i Hsa 99 4), .inl (nI k)], Hsa)) (C := [mu_is Hsa (some 99) 13]) rfl (show mu_is Hsa (some 99) 13 from (ua.1.1.is rfl)) ?_
  rw [(show mu_i Hsa 99 4 = (nI P) from (ud_i (U := Va) (m := m) (P := 99) (j := 4) da rfl).trans ((zza.i 99 4 rfl).trans s4))]
  refine mw_if (P := (nI k) < (nI P)) (a := 23) (b := 68) (fun _ => rfl) trivial (fun h3 => ?_) (fun h3 => ?_)
  · -- 23: (nI k) < (nI P)
    have nh3 : k < P := (nI_ltI (by omega) (by omega)).mp (show nI k < nI P from h3)
    refine mw_go mu_g275 (k := 2) (f1 := (27, [(3, .inl (nI k)), (0, .inr (.inr (some 129))), (1, .inl (nI s))], [.inr (.inr (mu_r Hsa 129 16))], Hsa)) (C := [mu_is Hsa (some 129) 9]) rfl (show mu_is Hsa (some 129) 9 from (ua.1.1.is rfl)) ?_
    rw [(ua.1.1.r (p := 129) (j := 16) (q := 144) rfl)]
    refine mw_go mu_g275 (k := 3) (f1 := (32, [(3, .inl (nI k)), (0, .inr (.inr (some 129))), (1, .inl (nI s))], [.inr (.inr (mu_r Hsa 129 0)), .inl (nI k), .inr (.inr (some 144))], Hsa)) (C := [mu_is Hsa (some 129) 9]) rfl (show mu_is Hsa (some 129) 9 from (ua.1.1.is rfl)) ?_
    rw [(ua.1.1.r (p := 129) (j := 0) (q := 99) rfl)]
    refine mw_go mu_g275 (k := 2) (f1 := (34, [(3, .inl (nI k)), (0, .inr (.inr (some 129))), (1, .inl (nI s))], [.inl (nI k), .inl (nI s), .inr (.inr (some 99)), .inl (nI k), .inr (.inr (some 144))], Hsa)) (C := []) rfl trivial ?_
    refine mw_cIe (fun _ => rfl) (show mu_is Hsa (some 99) 13 from (ua.1.1.is rfl)) (sp_digit (d := (d + 3)) ua da (spx_keep hS (show (Va.2.1 99 4) = (U.2.1 99 4) from (zza.i 99 4 rfl)) (show (Va.2.1 99 10) = (U.2.1 99 10) from (zza.i 99 10 rfl)) (show (Va.2.1 99 11) = (U.2.1 99 11) from (zza.i 99 11 rfl)) (show (Va.2.1 99 12) = (U.2.1 99 12) from (zza.i 99 12 rfl)) (show (Va.2.2.1 99 5) = (U.2.2.1 99 5) from (zza.a 99 5 rfl)) (show (Va.2.2.1 99 7) = (U.2.2.1 99 7) from (zza.a 99 7 rfl)) (show (Va.2.2.1 99 6) = (U.2.2.1 99 6) from (zza.a 99 6 rfl)) (show (Va.2.2.1 99 8).1 = (U.2.2.1 99 8).1 from (zza.n 99 8 rfl)) (show (Va.2.2.1 99 18).1 = (U.2.2.1 99 18).1 from (zza.n 99 18 rfl)) (show (Va.2.2.2.1 100 0) = (U.2.2.2.1 100 0) from (zza.r 100 0 rfl)) (show (Va.2.2.2.1 99 0) = (U.2.2.2.1 99 0) from (zza.r 99 0 rfl))) (by omega) (by omega)) ?_
    have hdk := dgz_max (s := s) hf1 (k := k) (P := P)
    rw [hdk]
    have hdl := dgz_lt (s := s) (P := P) (k := k) hf1
    refine mw_go mu_g275 (k := 1) (f1 := (38, [(3, .inl (nI k)), (0, .inr (.inr (some 129))), (1, .inl (nI s))], [], (mu_si Hsa 144 (nI k).toNatClampNeg (nI (dgz f P s k))))) (C := [mu_is Hsa (some 144) 100, vp_in (nI k) (mu_n Hsa 144)]) rfl (show (mu_is Hsa (some 144) 100) ∧ (vp_in (nI k) (mu_n Hsa 144)) from ⟨(ua.iA da rfl rfl ((ud_q (m := m) (P := 129) (j := 16) da rfl).symm.trans (ua.1.1.r (p := 129) (j := 16) (q := 144) rfl))), (by rw [show mu_n Hsa 144 = 14 from (ua.1.1.a (p := 144) (x := (100, 14)) rfl).2]; exact vp_in_nI (n := k) (by omega) (by decide))⟩) ?_
    rw [(show (nI k).toNatClampNeg = k from nI_clamp (by omega))]
    obtain ⟨u5, r5, d5⟩ : um m (mu_si Hsa 144 k (nI (dgz f P s k))) ∧ ur m C Hsa (mu_si Hsa 144 k (nI (dgz f P s k))) ∧ ud m (mu_si Hsa 144 k (nI (dgz f P s k))) = (upA Va 129 16 k (nI (dgz f P s k))) := ua.sA (C := C) da rfl rfl ((ud_q (m := m) (P := 129) (j := 16) da rfl).symm.trans (ua.1.1.r (p := 129) (j := 16) (q := 144) rfl))
    generalize (mu_si Hsa 144 k (nI (dgz f P s k))) = Q5 at u5 r5 d5 ⊢
    have qf5 : uq F275 U (upA Va 129 16 k (nI (dgz f P s k))) := qfa.A rfl
    have ht5 : ur m C H Q5 := hta.trans r5
    refine mw_go mu_g275 (k := 2) (f1 := (42, [(3, .inl (nI k)), (0, .inr (.inr (some 129))), (1, .inl (nI s))], [.inr (.inr (mu_r Q5 129 13))], Q5)) (C := [mu_is Q5 (some 129) 9]) rfl (show mu_is Q5 (some 129) 9 from (u5.1.1.is rfl)) ?_
    rw [(u5.1.1.r (p := 129) (j := 13) (q := 141) rfl)]
    refine mw_go mu_g275 (k := 3) (f1 := (45, [(3, .inl (nI k)), (0, .inr (.inr (some 129))), (1, .inl (nI s))], [], (mu_si Q5 141 (nI k).toNatClampNeg (-1 : Int32)))) (C := [mu_is Q5 (some 141) 100, vp_in (nI k) (mu_n Q5 141)]) rfl (show (mu_is Q5 (some 141) 100) ∧ (vp_in (nI k) (mu_n Q5 141)) from ⟨(u5.iA d5 rfl rfl ((ud_q (m := m) (P := 129) (j := 13) d5 rfl).symm.trans (u5.1.1.r (p := 129) (j := 13) (q := 141) rfl))), (by rw [show mu_n Q5 141 = 14 from (u5.1.1.a (p := 141) (x := (100, 14)) rfl).2]; exact vp_in_nI (n := k) (by omega) (by decide))⟩) ?_
    rw [(show (nI k).toNatClampNeg = k from nI_clamp (by omega))]
    obtain ⟨u6, r6, d6⟩ : um m (mu_si Q5 141 k (-1 : Int32)) ∧ ur m C Q5 (mu_si Q5 141 k (-1 : Int32)) ∧ ud m (mu_si Q5 141 k (-1 : Int32)) = (upA (upA Va 129 16 k (nI (dgz f P s k))) 129 13 k (-1 : Int32)) := u5.sA (C := C) d5 rfl rfl ((ud_q (m := m) (P := 129) (j := 13) d5 rfl).symm.trans (u5.1.1.r (p := 129) (j := 13) (q := 141) rfl))
    generalize (mu_si Q5 141 k (-1 : Int32)) = Q6 at u6 r6 d6 ⊢
    have qf6 : uq F275 U (upA (upA Va 129 16 k (nI (dgz f P s k))) 129 13 k (-1 : Int32)) := qf5.A rfl
    have ht6 : ur m C H Q6 := ht5.trans r6
    refine mw_go mu_g275 (k := 2) (f1 := (49, [(3, .inl (nI k)), (0, .inr (.inr (some 129))), (1, .inl (nI s))], [.inr (.inr (mu_r Q6 129 0))], Q6)) (C := [mu_is Q6 (some 129) 9]) rfl (show mu_is Q6 (some 129) 9 from (u6.1.1.is rfl)) ?_
    rw [(u6.1.1.r (p := 129) (j := 0) (q := 99) rfl)]
    refine mw_go mu_g275 (k := 1) (f1 := (52, [(3, .inl (nI k)), (0, .inr (.inr (some 129))), (1, .inl (nI s))], [.inr (.inr (mu_r Q6 99 1))], Q6)) (C := [mu_is Q6 (some 99) 13]) rfl (show mu_is Q6 (some 99) 13 from (u6.1.1.is rfl)) ?_
    rw [(u6.1.1.r (p := 99) (j := 1) (q := 100) rfl)]
    refine mw_go mu_g275 (k := 3) (f1 := (57, [(3, .inl (nI k)), (0, .inr (.inr (some 129))), (1, .inl (nI s))], [.inr (.inr (mu_r Q6 129 16)), .inl (nI k), .inr (.inr (some 100))], Q6)) (C := [mu_is Q6 (some 129) 9]) rfl (show mu_is Q6 (some 129) 9 from (u6.1.1.is rfl)) ?_
    rw [(u6.1.1.r (p := 129) (j := 16) (q := 144) rfl)]
    refine mw_go mu_g275 (k := 2) (f1 := (59, [(3, .inl (nI k)), (0, .inr (.inr (some 129))), (1, .inl (nI s))], [.inl (mu_i Q6 144 (nI k).toNatClampNeg), .inl (nI k), .inr (.inr (some 100))], Q6)) (C := [mu_isr Q6 (some 144) 100, vp_in (nI k) (mu_n Q6 144)]) rfl (show (mu_isr Q6 (some 144) 100) ∧ (vp_in (nI k) (mu_n Q6 144)) from ⟨((u6.iA d6 rfl rfl ((ud_q (m := m) (P := 129) (j := 16) d6 rfl).symm.trans (u6.1.1.r (p := 129) (j := 16) (q := 144) rfl)))).r, (by rw [show mu_n Q6 144 = 14 from (u6.1.1.a (p := 144) (x := (100, 14)) rfl).2]; exact vp_in_nI (n := k) (by omega) (by decide))⟩) ?_
    rw [(show (mu_i Q6 144 (nI k).toNatClampNeg) = (nI (dgz f P s k)) from ((congrArg (mu_i Q6 144) (show (nI k).toNatClampNeg = k from nI_clamp (by omega))).trans (u6.gA d6 rfl rfl ((ud_q (m := m) (P := 129) (j := 16) d6 rfl).symm.trans (u6.1.1.r (p := 129) (j := 16) (q := 144) rfl)))).trans ((congrArg (fun z => z.2 k) (show (upA (upA Va 129 16 k (nI (dgz f P s k))) 129 13 k (-1 : Int32)).2.2.1 129 16 = ((upA (upA Va 129 16 k (nI (dgz f P s k))) 129 13 k (-1 : Int32)).2.2.1 129 16) from rfl)).trans (if_pos rfl)))]
    refine mw_cV (fun _ => rfl) (show mu_is Q6 (some 100) 5 from (u6.1.1.is rfl)) (mc_pose (d := (d + 3)) (C := C) (k := k) (n := dgz f P s k) u6 d6 (spx_keep hS (show ((upA (upA Va 129 16 k (nI (dgz f P s k))) 129 13 k (-1 : Int32)).2.1 99 4) = (U.2.1 99 4) from (zza.i 99 4 rfl)) (show ((upA (upA Va 129 16 k (nI (dgz f P s k))) 129 13 k (-1 : Int32)).2.1 99 10) = (U.2.1 99 10) from (zza.i 99 10 rfl)) (show ((upA (upA Va 129 16 k (nI (dgz f P s k))) 129 13 k (-1 : Int32)).2.1 99 11) = (U.2.1 99 11) from (zza.i 99 11 rfl)) (show ((upA (upA Va 129 16 k (nI (dgz f P s k))) 129 13 k (-1 : Int32)).2.1 99 12) = (U.2.1 99 12) from (zza.i 99 12 rfl)) (show ((upA (upA Va 129 16 k (nI (dgz f P s k))) 129 13 k (-1 : Int32)).2.2.1 99 5) = (U.2.2.1 99 5) from (zza.a 99 5 rfl)) (show ((upA (upA Va 129 16 k (nI (dgz f P s k))) 129 13 k (-1 : Int32)).2.2.1 99 7) = (U.2.2.1 99 7) from (zza.a 99 7 rfl)) (show ((upA (upA Va 129 16 k (nI (dgz f P s k))) 129 13 k (-1 : Int32)).2.2.1 99 6) = (U.2.2.1 99 6) from (zza.a 99 6 rfl)) (show ((upA (upA Va 129 16 k (nI (dgz f P s k))) 129 13 k (-1 : Int32)).2.2.1 99 8).1 = (U.2.2.1 99 8).1 from (zza.n 99 8 rfl)) (show ((upA (upA Va 129 16 k (nI (dgz f P s k))) 129 13 k (-1 : Int32)).2.2.1 99 18).1 = (U.2.2.1 99 18).1 from (zza.n 99 18 rfl)) (show ((upA (upA Va 129 16 k (nI (dgz f P s k))) 129 13 k (-1 : Int32)).2.2.2.1 100 0) = (U.2.2.2.1 100 0) from (zza.r 100 0 rfl)) (show ((upA (upA Va 129 16 k (nI (dgz f P s k))) 129 13 k (-1 : Int32)).2.2.2.1 99 0) = (U.2.2.2.1 99 0) from (zza.r 99 0 rfl))) (by omega) (by omega) (by rw [show k % 14 = k by omega]; exact hdl)) (fun Q7 q7 => ?_)
    obtain ⟨u7, r7, d7⟩ := q7
    have ht7 : ur m C H Q7 := ht6.trans r7
    have qf7 : uq F275 U (upT (upA (upA Va 129 16 k (nI (dgz f P s k))) 129 13 k (-1 : Int32)) (ax 22 (upA (upA Va 129 16 k (nI (dgz f P s k))) 129 13 k (-1 : Int32)).1 (nI k) 2 (((upA (upA Va 129 16 k (nI (dgz f P s k))) 129 13 k (-1 : Int32)).2.2.1 99 8).2 (sm f 0 (k % 14) + dgz f P s k)))) := qf6.ax rfl
    refine mw_go mu_g275 (k := 1) (f1 := (65, [(3, .inl ((nI k) + 1)), (0, .inr (.inr (some 129))), (1, .inl (nI s))], [], Q7)) (C := []) rfl trivial ?_
    rw [(show ((nI k) + 1) = (nI (k + 1)) from (nI_add k 1))]
    refine mw_go mu_g275 (k := 1) (f1 := (12, [(3, .inl (nI (k + 1))), (0, .inr (.inr (some 129))), (1, .inl (nI s))], [], Q7)) (C := []) rfl trivial ?_
    exact mw_sub (by simp) (iha (k + 1, Q7) ⟨u7, ht7, (show uq F275a (upI (upI U 129 21 (nI b)) 129 11 (0 : Int32)) (ud m Q7) from by rw [d7]; exact (((zza.A rfl).A rfl).T (fun q hq => by first | exact ax_ne (in1_ne rfl hq) | exact ap_ne (in1_ne rfl hq) | exact fu_ne _ _ (in1_ne rfl hq)))), (show (k + 1) ≤ P from (by omega)), (show ∀ j, j < (k + 1) → ((ud m Q7).2.2.1 129 16).2 j = nI (dgz f P s j) from by rw [d7]; exact (fun j hj => (by show (if j = k then nI (dgz f P s k) else (Va.2.2.1 129 16).2 j) = _; by_cases e0 : j = k; (rw [if_pos e0, e0]); (rw [if_neg e0]; exact hdg j (by omega))))), (show ∀ j, j < (k + 1) → ((ud m Q7).2.2.1 129 13).2 j = -1 from by rw [d7]; exact (fun j hj => (by show (if j = k then (-1 : Int32) else (Va.2.2.1 129 13).2 j) = -1; by_cases e0 : j = k; (rw [if_pos e0]); (rw [if_neg e0]; exact hoc j (by omega))))), (show PSD U (ud m Q7) (k + 1) f (dgz f P s) from by rw [d7]; exact (PSD.step (V := (upA (upA Va 129 16 k (nI (dgz f P s k))) 129 13 k (-1 : Int32))) (show PSD U (upA (upA Va 129 16 k (nI (dgz f P s k))) 129 13 k (-1 : Int32)) k f (dgz f P s) from hps) h28 (by omega) (by rw [show k % 14 = k by omega, show ((upA (upA Va 129 16 k (nI (dgz f P s k))) 129 13 k (-1 : Int32)).2.2.1 99 8) = U.2.2.1 99 8 from zza.a 99 8 rfl])))⟩ (by show P - (k + 1) < P - k; omega))
  · -- 68: not (nI k) < (nI P)
    have nh3 : ¬ k < P := fun z => h3 (show nI k < nI P from (nI_ltI (by omega) (by omega)).mpr z)
    have hke : k = P := by omega
    rw [hke] at hdg hps hoc
    refine mw_go mu_g275 (k := 2) (f1 := (70, [(3, .inl (nI k)), (0, .inr (.inr (some 129))), (1, .inl (nI s))], [.inl (0 : Int32), .inr (.inr (some 129))], Hsa)) (C := []) rfl trivial ?_
    refine mw_cIe (fun _ => rfl) (show mu_is Hsa (some 129) 9 from (ua.1.1.is rfl)) (rl_cend0 (d := (d + 3)) ua da (hB.eq (show (Va.1 27) = (U.1 27) from (zza.t 27 rfl))) ((congrArg Prod.fst (show (Va.1 24) = (U.1 24) from (zza.t 24 rfl))).trans hFA.1.1) hFA.1.2.1) ?_
    refine mw_go mu_g275 (k := 3) (f1 := (78, [(3, .inl (nI (cmz nb bo 0 nf))), (0, .inr (.inr (some 129))), (1, .inl (nI s))], [.inr (.inr (mu_r Hsa 129 23))], Hsa)) (C := [mu_is Hsa (some 129) 9]) rfl (show mu_is Hsa (some 129) 9 from (ua.1.1.is rfl)) ?_
    rw [(ua.1.1.r (p := 129) (j := 23) (q := 167) rfl)]
    refine mw_go mu_g275 (k := 2) (f1 := (82, [(3, .inl (nI (cmz nb bo 0 nf))), (0, .inr (.inr (some 129))), (1, .inl (nI s))], [.inl (mu_i Hsa 129 21), .inr (.inr (some 167))], Hsa)) (C := [mu_is Hsa (some 129) 9]) rfl (show mu_is Hsa (some 129) 9 from (ua.1.1.is rfl)) ?_
    rw [(show mu_i Hsa 129 21 = (nI b) from (ud_i (U := Va) (m := m) (P := 129) (j := 21) da rfl).trans (zza.i 129 21 rfl))]
    refine mw_go mu_g275 (k := 1) (f1 := (83, [(3, .inl (nI (cmz nb bo 0 nf))), (0, .inr (.inr (some 129))), (1, .inl (nI s))], [.inl (0 : Int32), .inl (nI b), .inr (.inr (some 167))], Hsa)) (C := []) rfl trivial ?_
    refine mw_cIe (fun _ => rfl) (show mu_is Hsa (some 167) 10 from (ua.1.1.is rfl)) (ua.getr (d := (d + 4)) da (j := 27) (by decide) rfl (nI b) (c := 0) (by decide)) ?_
    rw [show (tget (Va.1 27) (nI b) 0) = ((U.1 27).2 b 0) from (congrArg (fun z => tget z (nI b) 0) (show Va.1 27 = (U.1 27) from (zza.t 27 rfl))).trans (tget_nI (by omega))]
    refine mw_go mu_g275 (k := 6) (f1 := (93, [(4, .inl (((U.1 27).2 b 0) - (nI (cmz nb bo 0 nf)))), (3, .inl (nI (cmz nb bo 0 nf))), (0, .inr (.inr (some 129))), (1, .inl (nI s))], [.inl (0 : Int32), .inr (.inr (some 129)), .inl (nI (cmz nb bo 0 nf))], Hsa)) (C := []) rfl trivial ?_
    refine mw_cIe (fun _ => rfl) (show mu_is Hsa (some 129) 9 from (ua.1.1.is rfl)) (rl_own0 (d := (d + 2)) (b := b) ua da (hB.eq (show (Va.1 27) = (U.1 27) from (zza.t 27 rfl))) (zza.i 129 21 rfl) hbn ((congrArg Prod.fst (show (Va.1 24) = (U.1 24) from (zza.t 24 rfl))).trans hFA.1.1) hFA.1.2.1 hle) ?_
    refine mw_go mu_g275 (k := 1) (f1 := (97, [(4, .inl (((U.1 27).2 b 0) - (nI (cmz nb bo 0 nf)))), (3, .inl (nI (cmz nb bo 0 nf))), (0, .inr (.inr (some 129))), (1, .inl (nI s))], [.inl ((nI (cmz nb bo 0 nf)) + (nI (owz nb bo b 0 nf)))], Hsa)) (C := []) rfl trivial ?_
    rw [(show ((nI (cmz nb bo 0 nf)) + (nI (owz nb bo b 0 nf))) = (nI ((cmz nb bo 0 nf) + (owz nb bo b 0 nf))) from (nI_add (cmz nb bo 0 nf) (owz nb bo b 0 nf)))]
    refine mw_go mu_g275 (k := 1) (f1 := (99, [(5, .inl (nI ((cmz nb bo 0 nf) + (owz nb bo b 0 nf)))), (4, .inl (((U.1 27).2 b 0) - (nI (cmz nb bo 0 nf)))), (3, .inl (nI (cmz nb bo 0 nf))), (0, .inr (.inr (some 129))), (1, .inl (nI s))], [], Hsa)) (C := []) rfl trivial ?_
    rw [show (nI ((cmz nb bo 0 nf) + (owz nb bo b 0 nf))) = nI mn from congrArg nI hmn.symm]
    refine mw_go mu_g275 (k := 2) (f1 := (102, [(6, .inl (0 : Int32)), (5, .inl (nI mn)), (4, .inl (((U.1 27).2 b 0) - (nI (cmz nb bo 0 nf)))), (3, .inl (nI (cmz nb bo 0 nf))), (0, .inr (.inr (some 129))), (1, .inl (nI s))], [], Hsa)) (C := []) rfl trivial ?_
    show mu_W _ _ (102, [(6, .inl (nI 0)), (5, .inl (nI mn)), (4, .inl (((U.1 27).2 b 0) - (nI (cmz nb bo 0 nf)))), (3, .inl (nI (cmz nb bo 0 nf))), (0, .inr (.inr (some 129))), (1, .inl (nI s))], [], Hsa) _
    refine mw_sub (L' := [(6, .inl (nI 0)), (0, .inr (.inr (some 129))), (3, .inl (nI (cmz nb bo 0 nf))), (4, .inl (((U.1 27).2 b 0) - (nI (cmz nb bo 0 nf)))), (5, .inl (nI mn))]) (by simp) ?_
    refine mw_down (α := Nat × mu_H) (fun zs => (102, [(6, .inl (nI zs.1)), (0, .inr (.inr (some 129))), (3, .inl (nI (cmz nb bo 0 nf))), (4, .inl (((U.1 27).2 b 0) - (nI (cmz nb bo 0 nf)))), (5, .inl (nI mn))], [], zs.2)) (fun zs => mn - zs.1) (fun zs => um m zs.2 ∧ ur m C H zs.2 ∧ (uq F275b Va (ud m zs.2)) ∧ (zs.1 ≤ mn) ∧ (OUT U (ud m zs.2) fi zs.1 (fun r => oid r (ixz (nm r) f (dgz f P s) P))) ∧ (∀ k, k < P → OPT (ud m zs.2) (sm f 0 k) (f k) k (SNG tm lv S (fun r => oid r (ixz (nm r) f (dgz f P s) P)) fi zs.1 k)) ∧ (∃ bf' bt', BZ (ud m zs.2) bf' bt')) (fun zs hzb ihb => ?_) (0, Hsa) ⟨ua, hta, (show uq F275b Va (ud m Hsa) from by rw [da]; exact uq.refl _ _), (show 0 ≤ mn from (by omega)), (show OUT U (ud m Hsa) fi 0 (fun r => oid r (ixz (nm r) f (dgz f P s) P)) from by rw [da]; exact ⟨congrArg Prod.fst (show Va.1 24 = U.1 24 from zza.t 24 rfl), fun r c _ => congrArg (fun y => y.2 r c) (show Va.1 24 = U.1 24 from zza.t 24 rfl), fun r hr => absurd hr (Nat.not_lt_zero _)⟩), (show ∀ k, k < P → OPT (ud m Hsa) (sm f 0 k) (f k) k (SNG tm lv S (fun r => oid r (ixz (nm r) f (dgz f P s) P)) fi 0 k) from by rw [da]; exact (fun j hj => Or.inl ⟨hoc j hj, fun x _ r hr => absurd hr (Nat.not_lt_zero _)⟩)), (show ∃ bf' bt', BZ (ud m Hsa) bf' bt' from by rw [da]; exact ⟨bf, bt, ⟨(zza.i 129 19 rfl).trans hz.1.1, (zza.i 129 20 rfl).trans hz.1.2.1, hz.1.2.2⟩, fun w hw hn => (by rw [show Va.2.2.2.2.1 146 = U.2.2.2.2.1 146 from zza.l 146 rfl]; exact hz.2 w hw hn)⟩)⟩
    obtain ⟨q, Hsb⟩ := zs
    obtain ⟨ub, htb, db, hq, hout, hop, hbz⟩ := hzb
    have ub : um m Hsb := ub
    have htb : ur m C H Hsb := htb
    have zzb : uq F275b Va (ud m Hsb) := db
    have hq : q ≤ mn := hq
    have hout : OUT U (ud m Hsb) fi q (fun r => oid r (ixz (nm r) f (dgz f P s) P)) := hout
    have hop : ∀ k, k < P → OPT (ud m Hsb) (sm f 0 k) (f k) k (SNG tm lv S (fun r => oid r (ixz (nm r) f (dgz f P s) P)) fi q k) := hop
    have hbz : ∃ bf' bt', BZ (ud m Hsb) bf' bt' := hbz
    obtain ⟨Vb, db⟩ : ∃ V, ud m Hsb = V := ⟨_, rfl⟩
    rw [db] at zzb hout hop hbz
    have qfb : uq F275 U Vb := qfa.tr zzb rfl
    show mu_W _ _ (102, [(6, .inl (nI q)), (0, .inr (.inr (some 129))), (3, .inl (nI (cmz nb bo 0 nf))), (4, .inl (((U.1 27).2 b 0) - (nI (cmz nb bo 0 nf)))), (5, .inl (nI mn))], [], Hsb) _
    refine mw_go mu_g275 (k := 2) (f1 := (106, [(6, .inl (nI q)), (0, .inr (.inr (some 129))), (3, .inl (nI (cmz nb bo 0 nf))), (4, .inl (((U.1 27).2 b 0) - (nI (cmz nb bo 0 nf)))), (5, .inl (nI mn))], [.inl (nI mn), .inl (nI q)], Hsb)) (C := []) rfl trivial ?_
    refine mw_if (P := (nI q) < (nI mn)) (a := 109) (b := 226) (fun _ => rfl) trivial (fun h11 => ?_) (fun h11 => ?_)
    · -- 109: (nI q) < (nI mn)
      have nh11 : q < mn := (nI_ltI (by omega) (by omega)).mp (show nI q < nI mn from h11)
      have hfl := hfi q (by omega)
      have hfq := hFA.2 (fi q) hfl
      have hnb := hFA.1
      refine mw_go mu_g275 (k := 2) (f1 := (112, [(6, .inl (nI q)), (0, .inr (.inr (some 129))), (3, .inl (nI (cmz nb bo 0 nf))), (4, .inl (((U.1 27).2 b 0) - (nI (cmz nb bo 0 nf)))), (5, .inl (nI mn))], [.inl (nI (cmz nb bo 0 nf)), .inl (nI q)], Hsb)) (C := []) rfl trivial ?_
      refine mw_if (P := (nI q) < (nI (cmz nb bo 0 nf))) (a := 115) (b := 120) (fun _ => rfl) trivial (fun h12 => ?_) (fun h12 => ?_)
      · -- 115: (nI q) < (nI (cmz nb bo 0 nf))
        have nh12 : q < (cmz nb bo 0 nf) := (nI_ltI (by omega) (by omega)).mp (show nI q < nI (cmz nb bo 0 nf) from h12)
        refine mw_go mu_g275 (k := 2) (f1 := (125, [(6, .inl (nI q)), (0, .inr (.inr (some 129))), (3, .inl (nI (cmz nb bo 0 nf))), (4, .inl (((U.1 27).2 b 0) - (nI (cmz nb bo 0 nf)))), (5, .inl (nI mn))], [.inl (nI q)], Hsb)) (C := []) rfl trivial ?_
        rw [show nI q = nI (fi q) from (congrArg nI (hfA q (by omega))).symm]
        refine mw_go mu_g275 (k := 3) (f1 := (131, [(7, .inl (nI (fi q))), (6, .inl (nI q)), (0, .inr (.inr (some 129))), (3, .inl (nI (cmz nb bo 0 nf))), (4, .inl (((U.1 27).2 b 0) - (nI (cmz nb bo 0 nf)))), (5, .inl (nI mn))], [.inr (.inr (mu_r Hsb 129 4))], Hsb)) (C := [mu_is Hsb (some 129) 9]) rfl (show mu_is Hsb (some 129) 9 from (ub.1.1.is rfl)) ?_
        rw [(show mu_r Hsb 129 4 = (U.2.2.2.1 129 4) from (ud_q (U := Vb) (m := m) (P := 129) (j := 4) db rfl).trans ((zzb.r 129 4 rfl).trans (zza.r 129 4 rfl)))]
        refine mw_go mu_g275 (k := 2) (f1 := (135, [(7, .inl (nI (fi q))), (6, .inl (nI q)), (0, .inr (.inr (some 129))), (3, .inl (nI (cmz nb bo 0 nf))), (4, .inl (((U.1 27).2 b 0) - (nI (cmz nb bo 0 nf)))), (5, .inl (nI mn))], [.inr (.inr (mu_r Hsb 129 1)), .inr (.inr (U.2.2.2.1 129 4))], Hsb)) (C := [mu_is Hsb (some 129) 9]) rfl (show mu_is Hsb (some 129) 9 from (ub.1.1.is rfl)) ?_
        rw [(ub.1.1.r (p := 129) (j := 1) (q := 130) rfl)]
        refine mw_go mu_g275 (k := 2) (f1 := (138, [(7, .inl (nI (fi q))), (6, .inl (nI q)), (0, .inr (.inr (some 129))), (3, .inl (nI (cmz nb bo 0 nf))), (4, .inl (((U.1 27).2 b 0) - (nI (cmz nb bo 0 nf)))), (5, .inl (nI mn))], [.inl (2 : Int32), .inl (nI (fi q)), .inr (.inr (some 130)), .inr (.inr (U.2.2.2.1 129 4))], Hsb)) (C := []) rfl trivial ?_
        refine mw_cIe (fun _ => rfl) (show mu_is Hsb (some 130) 10 from (ub.1.1.is rfl)) (ub.getr (d := (d + 4)) db (j := 24) (by decide) rfl (nI (fi q)) (c := 2) (by decide)) ?_
        rw [show (tget (Vb.1 24) (nI (fi q)) 2) = (nI (bs (fi q))) from ((congrArg (fun z => tget z (nI (fi q)) 2) (show Vb.1 24 = (Vb.1 24) from rfl)).trans (tget_nI (by omega))).trans ((hout.2.1 (fi q) 2 (fun y => absurd y.1 (by decide))).trans hfq.1.2.2.1)]
        refine mw_go mu_g275 (k := 3) (f1 := (146, [(7, .inl (nI (fi q))), (6, .inl (nI q)), (0, .inr (.inr (some 129))), (3, .inl (nI (cmz nb bo 0 nf))), (4, .inl (((U.1 27).2 b 0) - (nI (cmz nb bo 0 nf)))), (5, .inl (nI mn))], [.inr (.inr (mu_r Hsb 129 1)), .inr (.inr (some 129)), .inl (nI (bs (fi q))), .inr (.inr (U.2.2.2.1 129 4))], Hsb)) (C := [mu_is Hsb (some 129) 9]) rfl (show mu_is Hsb (some 129) 9 from (ub.1.1.is rfl)) ?_
        rw [(ub.1.1.r (p := 129) (j := 1) (q := 130) rfl)]
        refine mw_go mu_g275 (k := 2) (f1 := (149, [(7, .inl (nI (fi q))), (6, .inl (nI q)), (0, .inr (.inr (some 129))), (3, .inl (nI (cmz nb bo 0 nf))), (4, .inl (((U.1 27).2 b 0) - (nI (cmz nb bo 0 nf)))), (5, .inl (nI mn))], [.inl (0 : Int32), .inl (nI (fi q)), .inr (.inr (some 130)), .inr (.inr (some 129)), .inl (nI (bs (fi q))), .inr (.inr (U.2.2.2.1 129 4))], Hsb)) (C := []) rfl trivial ?_
        refine mw_cIe (fun _ => rfl) (show mu_is Hsb (some 130) 10 from (ub.1.1.is rfl)) (ub.getr (d := (d + 4)) db (j := 24) (by decide) rfl (nI (fi q)) (c := 0) (by decide)) ?_
        rw [show (tget (Vb.1 24) (nI (fi q)) 0) = (nm (fi q)) from ((congrArg (fun z => tget z (nI (fi q)) 0) (show Vb.1 24 = (Vb.1 24) from rfl)).trans (tget_nI (by omega))).trans ((hout.2.1 (fi q) 0 (fun y => absurd y.1 (by decide))).trans hfq.1.1)]
        refine mw_cIe (fun _ => rfl) (show mu_is Hsb (some 129) 9 from (ub.1.1.is rfl)) (rl_index (d := (d + 4)) (dg := dgz f P s) (mk := nm (fi q)) ub db (spx_keep hS (show (Vb.2.1 99 4) = (U.2.1 99 4) from ((zzb.i 99 4 rfl).trans (zza.i 99 4 rfl))) (show (Vb.2.1 99 10) = (U.2.1 99 10) from ((zzb.i 99 10 rfl).trans (zza.i 99 10 rfl))) (show (Vb.2.1 99 11) = (U.2.1 99 11) from ((zzb.i 99 11 rfl).trans (zza.i 99 11 rfl))) (show (Vb.2.1 99 12) = (U.2.1 99 12) from ((zzb.i 99 12 rfl).trans (zza.i 99 12 rfl))) (show (Vb.2.2.1 99 5) = (U.2.2.1 99 5) from ((zzb.a 99 5 rfl).trans (zza.a 99 5 rfl))) (show (Vb.2.2.1 99 7) = (U.2.2.1 99 7) from ((zzb.a 99 7 rfl).trans (zza.a 99 7 rfl))) (show (Vb.2.2.1 99 6) = (U.2.2.1 99 6) from ((zzb.a 99 6 rfl).trans (zza.a 99 6 rfl))) (show (Vb.2.2.1 99 8).1 = (U.2.2.1 99 8).1 from ((zzb.n 99 8 rfl).trans (zza.n 99 8 rfl))) (show (Vb.2.2.1 99 18).1 = (U.2.2.1 99 18).1 from ((zzb.n 99 18 rfl).trans (zza.n 99 18 rfl))) (show (Vb.2.2.2.1 100 0) = (U.2.2.2.1 100 0) from ((zzb.r 100 0 rfl).trans (zza.r 100 0 rfl))) (show (Vb.2.2.2.1 99 0) = (U.2.2.2.1 99 0) from ((zzb.r 99 0 rfl).trans (zza.r 99 0 rfl)))) (by rw [(show (Vb.2.2.1 129 16) = (Va.2.2.1 129 16) from (zzb.a 129 16 rfl))]; exact hdg)) ?_
        have hix := ixz_lt (mk := nm (fi q)) (f := f) (dg := dgz f P s) (n := P) (fun k _ => dgz_lt hf1)
        refine mw_go mu_g275 (k := 1) (f1 := (156, [(7, .inl (nI (fi q))), (6, .inl (nI q)), (0, .inr (.inr (some 129))), (3, .inl (nI (cmz nb bo 0 nf))), (4, .inl (((U.1 27).2 b 0) - (nI (cmz nb bo 0 nf)))), (5, .inl (nI mn))], [.inl ((nI (bs (fi q))) + (nI (ixz (nm (fi q)) f (dgz f P s) P))), .inr (.inr (U.2.2.2.1 129 4))], Hsb)) (C := []) rfl trivial ?_
        rw [(show ((nI (bs (fi q))) + (nI (ixz (nm (fi q)) f (dgz f P s) P))) = (nI ((bs (fi q)) + (ixz (nm (fi q)) f (dgz f P s) P))) from (nI_add (bs (fi q)) (ixz (nm (fi q)) f (dgz f P s) P)))]
        refine mw_go mu_g275 (k := 1) (f1 := (157, [(7, .inl (nI (fi q))), (6, .inl (nI q)), (0, .inr (.inr (some 129))), (3, .inl (nI (cmz nb bo 0 nf))), (4, .inl (((U.1 27).2 b 0) - (nI (cmz nb bo 0 nf)))), (5, .inl (nI mn))], [.inl (mu_i Hsb (mu_p (U.2.2.2.1 129 4)) (nI ((bs (fi q)) + (ixz (nm (fi q)) f (dgz f P s) P))).toNatClampNeg)], Hsb)) (C := [mu_isr Hsb (U.2.2.2.1 129 4) 100, vp_in (nI ((bs (fi q)) + (ixz (nm (fi q)) f (dgz f P s) P))) (mu_n Hsb (mu_p (U.2.2.2.1 129 4)))]) rfl (show (mu_isr Hsb (U.2.2.2.1 129 4) 100) ∧ (vp_in (nI ((bs (fi q)) + (ixz (nm (fi q)) f (dgz f P s) P))) (mu_n Hsb (mu_p (U.2.2.2.1 129 4)))) from ⟨((ub.iA db rfl rfl (show Vb.2.2.2.1 129 4 = (U.2.2.2.1 129 4) from ((zzb.r 129 4 rfl).trans (zza.r 129 4 rfl))))).r, (ub.vA (i := (bs (fi q)) + (ixz (nm (fi q)) f (dgz f P s) P)) db rfl rfl (show Vb.2.2.2.1 129 4 = (U.2.2.2.1 129 4) from ((zzb.r 129 4 rfl).trans (zza.r 129 4 rfl))) (show (Vb.2.2.1 129 4).1 = (U.2.2.1 129 4).1 from ((zzb.n 129 4 rfl).trans (zza.n 129 4 rfl))) (by omega) (by omega))⟩) ?_
        rw [(show (mu_i Hsb (mu_p (U.2.2.2.1 129 4)) (nI ((bs (fi q)) + (ixz (nm (fi q)) f (dgz f P s) P))).toNatClampNeg) = (nI (oid (fi q) (ixz (nm (fi q)) f (dgz f P s) P))) from ((congrArg (mu_i Hsb (mu_p (U.2.2.2.1 129 4))) (show (nI ((bs (fi q)) + (ixz (nm (fi q)) f (dgz f P s) P))).toNatClampNeg = (bs (fi q)) + (ixz (nm (fi q)) f (dgz f P s) P) from nI_clamp (by omega))).trans (ub.gA db rfl rfl (show Vb.2.2.2.1 129 4 = (U.2.2.2.1 129 4) from ((zzb.r 129 4 rfl).trans (zza.r 129 4 rfl))))).trans ((congrArg (fun z => z.2 ((bs (fi q)) + (ixz (nm (fi q)) f (dgz f P s) P))) (show Vb.2.2.1 129 4 = (U.2.2.1 129 4) from ((zzb.a 129 4 rfl).trans (zza.a 129 4 rfl)))).trans (hfq.2.2.2 _ hix).1))]
        refine mw_go mu_g275 (k := 3) (f1 := (163, [(8, .inl (nI (oid (fi q) (ixz (nm (fi q)) f (dgz f P s) P)))), (7, .inl (nI (fi q))), (6, .inl (nI q)), (0, .inr (.inr (some 129))), (3, .inl (nI (cmz nb bo 0 nf))), (4, .inl (((U.1 27).2 b 0) - (nI (cmz nb bo 0 nf)))), (5, .inl (nI mn))], [.inr (.inr (mu_r Hsb 129 1))], Hsb)) (C := [mu_is Hsb (some 129) 9]) rfl (show mu_is Hsb (some 129) 9 from (ub.1.1.is rfl)) ?_
        rw [(ub.1.1.r (p := 129) (j := 1) (q := 130) rfl)]
        refine mw_go mu_g275 (k := 3) (f1 := (168, [(8, .inl (nI (oid (fi q) (ixz (nm (fi q)) f (dgz f P s) P)))), (7, .inl (nI (fi q))), (6, .inl (nI q)), (0, .inr (.inr (some 129))), (3, .inl (nI (cmz nb bo 0 nf))), (4, .inl (((U.1 27).2 b 0) - (nI (cmz nb bo 0 nf)))), (5, .inl (nI mn))], [.inl (nI (oid (fi q) (ixz (nm (fi q)) f (dgz f P s) P))), .inl (3 : Int32), .inl (nI (fi q)), .inr (.inr (some 130))], Hsb)) (C := []) rfl trivial ?_
        refine mw_cV (fun _ => rfl) (show mu_is Hsb (some 130) 10 from (ub.1.1.is rfl)) (ub.setr (C := C) (d := (d + 4)) db (j := 24) (Or.inr ⟨by decide, by decide⟩) rfl (nI (fi q)) (nI (oid (fi q) (ixz (nm (fi q)) f (dgz f P s) P))) (c := 3) (by decide)) (fun Q16 q16 => ?_)
        obtain ⟨u16, r16, d16⟩ := q16
        have ht16 : ur m C H Q16 := htb.trans r16
        have qf16 : uq F275 U (upT Vb (ax 24 Vb.1 (nI (fi q)) 3 (nI (oid (fi q) (ixz (nm (fi q)) f (dgz f P s) P))))) := qfb.ax rfl
        have hout2 : OUT U (upT Vb (ax 24 Vb.1 (nI (fi q)) 3 (nI (oid (fi q) (ixz (nm (fi q)) f (dgz f P s) P))))) fi (q + 1) (fun r => oid r (ixz (nm r) f (dgz f P s) P)) := hout.step (by rw [hFA.1.1]; omega) (by rw [hFA.1.1]; omega) (fun i hi y => by have := hfJ i q y (by omega) (by omega); omega)
        refine mw_go mu_g275 (k := 2) (f1 := (175, [(8, .inl (nI (oid (fi q) (ixz (nm (fi q)) f (dgz f P s) P)))), (7, .inl (nI (fi q))), (6, .inl (nI q)), (0, .inr (.inr (some 129))), (3, .inl (nI (cmz nb bo 0 nf))), (4, .inl (((U.1 27).2 b 0) - (nI (cmz nb bo 0 nf)))), (5, .inl (nI mn))], [.inr (.inr (mu_r Q16 129 0))], Q16)) (C := [mu_is Q16 (some 129) 9]) rfl (show mu_is Q16 (some 129) 9 from (u16.1.1.is rfl)) ?_
        rw [(u16.1.1.r (p := 129) (j := 0) (q := 99) rfl)]
        refine mw_go mu_g275 (k := 1) (f1 := (178, [(8, .inl (nI (oid (fi q) (ixz (nm (fi q)) f (dgz f P s) P)))), (7, .inl (nI (fi q))), (6, .inl (nI q)), (0, .inr (.inr (some 129))), (3, .inl (nI (cmz nb bo 0 nf))), (4, .inl (((U.1 27).2 b 0) - (nI (cmz nb bo 0 nf)))), (5, .inl (nI mn))], [.inr (.inr (mu_r Q16 99 2))], Q16)) (C := [mu_is Q16 (some 99) 13]) rfl (show mu_is Q16 (some 99) 13 from (u16.1.1.is rfl)) ?_
        rw [(u16.1.1.r (p := 99) (j := 2) (q := 113) rfl)]
        refine mw_go mu_g275 (k := 1) (f1 := (180, [(8, .inl (nI (oid (fi q) (ixz (nm (fi q)) f (dgz f P s) P)))), (7, .inl (nI (fi q))), (6, .inl (nI q)), (0, .inr (.inr (some 129))), (3, .inl (nI (cmz nb bo 0 nf))), (4, .inl (((U.1 27).2 b 0) - (nI (cmz nb bo 0 nf)))), (5, .inl (nI mn))], [.inl (nI (oid (fi q) (ixz (nm (fi q)) f (dgz f P s) P))), .inr (.inr (some 113))], Q16)) (C := []) rfl trivial ?_
        have hSv : SOK (upT Vb (ax 24 Vb.1 (nI (fi q)) 3 (nI (oid (fi q) (ixz (nm (fi q)) f (dgz f P s) P))))) N us S z p := hSK.eq (show ((upT Vb (ax 24 Vb.1 (nI (fi q)) 3 (nI (oid (fi q) (ixz (nm (fi q)) f (dgz f P s) P))))).2.1 113 1) = (U.2.1 113 1) from ((zzb.i 113 1 rfl).trans (zza.i 113 1 rfl))) (show ((upT Vb (ax 24 Vb.1 (nI (fi q)) 3 (nI (oid (fi q) (ixz (nm (fi q)) f (dgz f P s) P))))).2.1 113 2) = (U.2.1 113 2) from ((zzb.i 113 2 rfl).trans (zza.i 113 2 rfl))) (show ((upT Vb (ax 24 Vb.1 (nI (fi q)) 3 (nI (oid (fi q) (ixz (nm (fi q)) f (dgz f P s) P))))).2.1 113 5) = (U.2.1 113 5) from ((zzb.i 113 5 rfl).trans (zza.i 113 5 rfl))) (show ((upT Vb (ax 24 Vb.1 (nI (fi q)) 3 (nI (oid (fi q) (ixz (nm (fi q)) f (dgz f P s) P))))).2.2.1 113 3) = (U.2.2.1 113 3) from ((zzb.a 113 3 rfl).trans (zza.a 113 3 rfl))) (show ((upT Vb (ax 24 Vb.1 (nI (fi q)) 3 (nI (oid (fi q) (ixz (nm (fi q)) f (dgz f P s) P))))).2.2.1 113 4) = (U.2.2.1 113 4) from ((zzb.a 113 4 rfl).trans (zza.a 113 4 rfl))) (congrFun (show (upT Vb (ax 24 Vb.1 (nI (fi q)) 3 (nI (oid (fi q) (ixz (nm (fi q)) f (dgz f P s) P))))).2.2.2.2.2 = U.2.2.2.2.2 from ((zzb.2.2.2.2.2 rfl).trans (zza.2.2.2.2.2 rfl))) 114)
        obtain ⟨st, fc, hsa, hst, hsz, -, -, -⟩ := hSv.2.2.2.2.1 (oid (fi q) (ixz (nm (fi q)) f (dgz f P s) P)) (hfq.2.2.2 _ hix).2.1 (hfq.2.2.2 _ hix).2.2.1
        refine mw_cIe (fun _ => rfl) (show mu_is Q16 (some 113) 11 from (u16.1.1.is rfl)) (st_size (d := (d + 4)) u16 d16 hsa) ?_
        refine mw_if (P := (nI (hsz fc st)) = 0) (a := 186) (b := 188) (fun _ => rfl) trivial (fun h18 => ?_) (fun h18 => ?_)
        · -- 186: (nI (hsz fc st)) = 0
          have nh18 : (hsz fc st) = 0 := (nI_eq (by omega) (by omega)).mp (show nI (hsz fc st) = nI 0 from h18)
          refine mw_go mu_g275 (k := 1) (f1 := (187, [(8, .inl (nI (oid (fi q) (ixz (nm (fi q)) f (dgz f P s) P)))), (7, .inl (nI (fi q))), (6, .inl (nI q)), (0, .inr (.inr (some 129))), (3, .inl (nI (cmz nb bo 0 nf))), (4, .inl (((U.1 27).2 b 0) - (nI (cmz nb bo 0 nf)))), (5, .inl (nI mn))], [.inl (0 : Int32)], Q16)) (C := []) rfl trivial ?_
          have hbzE : ∃ bf' bt', BZ (upT Vb (ax 24 Vb.1 (nI (fi q)) 3 (nI (oid (fi q) (ixz (nm (fi q)) f (dgz f P s) P))))) bf' bt' := hbz
          exact mw_of (fun _ => mu_ret rfl (Or.inl rfl) ⟨(0 : Int32), Q16, rfl, u16, ht16, (by rw [d16]; exact qf16), (by rw [d16]; exact ((zzb.i 129 21 rfl).trans (zza.i 129 21 rfl))), (by rw [d16]; exact ((zzb.i 129 11 rfl).trans (zza.i 129 11 rfl))), (by rw [d16]; exact hbzE), Or.inl ⟨rfl, q, by omega, SOK.empty hSv (hfq.2.2.2 _ hix).2.1 (by omega)⟩⟩)
        · -- 188: not (nI (hsz fc st)) = 0
          have nh18 : ¬ (hsz fc st) = 0 := fun z => h18 (show nI (hsz fc st) = nI 0 from (nI_eq (by omega) (by omega)).mpr z)
          refine mw_go mu_g275 (k := 2) (f1 := (192, [(8, .inl (nI (oid (fi q) (ixz (nm (fi q)) f (dgz f P s) P)))), (7, .inl (nI (fi q))), (6, .inl (nI q)), (0, .inr (.inr (some 129))), (3, .inl (nI (cmz nb bo 0 nf))), (4, .inl (((U.1 27).2 b 0) - (nI (cmz nb bo 0 nf)))), (5, .inl (nI mn))], [.inr (.inr (mu_r Q16 129 1))], Q16)) (C := [mu_is Q16 (some 129) 9]) rfl (show mu_is Q16 (some 129) 9 from (u16.1.1.is rfl)) ?_
          rw [(u16.1.1.r (p := 129) (j := 1) (q := 130) rfl)]
          refine mw_go mu_g275 (k := 2) (f1 := (195, [(8, .inl (nI (oid (fi q) (ixz (nm (fi q)) f (dgz f P s) P)))), (7, .inl (nI (fi q))), (6, .inl (nI q)), (0, .inr (.inr (some 129))), (3, .inl (nI (cmz nb bo 0 nf))), (4, .inl (((U.1 27).2 b 0) - (nI (cmz nb bo 0 nf)))), (5, .inl (nI mn))], [.inl (1 : Int32), .inl (nI (fi q)), .inr (.inr (some 130))], Q16)) (C := []) rfl trivial ?_
          refine mw_cIe (fun _ => rfl) (show mu_is Q16 (some 130) 10 from (u16.1.1.is rfl)) (u16.getr (d := (d + 4)) d16 (j := 24) (by decide) rfl (nI (fi q)) (c := 1) (by decide)) ?_
          rw [show (tget ((upT Vb (ax 24 Vb.1 (nI (fi q)) 3 (nI (oid (fi q) (ixz (nm (fi q)) f (dgz f P s) P))))).1 24) (nI (fi q)) 1) = (tm (fi q)) from ((congrArg (fun z => tget z (nI (fi q)) 1) (show (upT Vb (ax 24 Vb.1 (nI (fi q)) 3 (nI (oid (fi q) (ixz (nm (fi q)) f (dgz f P s) P))))).1 24 = ((upT Vb (ax 24 Vb.1 (nI (fi q)) 3 (nI (oid (fi q) (ixz (nm (fi q)) f (dgz f P s) P))))).1 24) from rfl)).trans (tget_nI (by omega))).trans ((hout2.2.1 (fi q) 1 (fun y => absurd y.1 (by decide))).trans hfq.1.2.1)]
          refine mw_cIe (fun _ => rfl) trivial (rl_one (d := (d + 4))) ?_
          refine mw_if (P := (one1 (tm (fi q))) = 0) (a := 220) (b := 204) (fun _ => rfl) trivial (fun h21 => ?_) (fun h21 => ?_)
          · -- 220: (one1 (tm (fi q))) = 0
            have hne := hfq.2.1.no h21
            refine mw_go mu_g275 (k := 1) (f1 := (223, [(6, .inl ((nI q) + 1)), (8, .inl (nI (oid (fi q) (ixz (nm (fi q)) f (dgz f P s) P)))), (7, .inl (nI (fi q))), (0, .inr (.inr (some 129))), (3, .inl (nI (cmz nb bo 0 nf))), (4, .inl (((U.1 27).2 b 0) - (nI (cmz nb bo 0 nf)))), (5, .inl (nI mn))], [], Q16)) (C := []) rfl trivial ?_
            rw [(show ((nI q) + 1) = (nI (q + 1)) from (nI_add q 1))]
            refine mw_go mu_g275 (k := 1) (f1 := (102, [(6, .inl (nI (q + 1))), (8, .inl (nI (oid (fi q) (ixz (nm (fi q)) f (dgz f P s) P)))), (7, .inl (nI (fi q))), (0, .inr (.inr (some 129))), (3, .inl (nI (cmz nb bo 0 nf))), (4, .inl (((U.1 27).2 b 0) - (nI (cmz nb bo 0 nf)))), (5, .inl (nI mn))], [], Q16)) (C := []) rfl trivial ?_
            exact mw_sub (by simp) (ihb (q + 1, Q16) ⟨u16, ht16, (show uq F275b Va (ud m Q16) from by rw [d16]; exact (zzb.T (fun q hq => by first | exact ax_ne (in1_ne rfl hq) | exact ap_ne (in1_ne rfl hq) | exact fu_ne _ _ (in1_ne rfl hq)))), (show (q + 1) ≤ mn from (by omega)), (show OUT U (ud m Q16) fi (q + 1) (fun r => oid r (ixz (nm r) f (dgz f P s) P)) from by rw [d16]; exact hout2), (show ∀ k, k < P → OPT (ud m Q16) (sm f 0 k) (f k) k (SNG tm lv S (fun r => oid r (ixz (nm r) f (dgz f P s) P)) fi (q + 1) k) from by rw [d16]; exact (fun j hj => (show OPT (upT Vb (ax 24 Vb.1 (nI (fi q)) 3 (nI (oid (fi q) (ixz (nm (fi q)) f (dgz f P s) P))))) (sm f 0 j) (f j) j _ from hop j hj).congr (fun x _ => ⟨fun y r hr h1 h2 => by by_cases e0 : r = q; (rw [e0] at h1 h2; exact absurd (h1 ▸ h2) hne); exact y r (by omega) h1 h2, fun y r hr h1 h2 => y r (by omega) h1 h2⟩))), (show ∃ bf' bt', BZ (ud m Q16) bf' bt' from by rw [d16]; exact hbz)⟩ (by show mn - (q + 1) < mn - q; omega))
          · -- 204: not (one1 (tm (fi q))) = 0
            obtain ⟨heq, hlq, hn0⟩ := hfq.2.1.yes h21
            refine mw_go mu_g275 (k := 4) (f1 := (211, [(8, .inl (nI (oid (fi q) (ixz (nm (fi q)) f (dgz f P s) P)))), (7, .inl (nI (fi q))), (6, .inl (nI q)), (0, .inr (.inr (some 129))), (3, .inl (nI (cmz nb bo 0 nf))), (4, .inl (((U.1 27).2 b 0) - (nI (cmz nb bo 0 nf)))), (5, .inl (nI mn))], [.inr (.inr (mu_r Q16 129 1)), .inl (nI (oid (fi q) (ixz (nm (fi q)) f (dgz f P s) P))), .inr (.inr (some 129))], Q16)) (C := [mu_is Q16 (some 129) 9]) rfl (show mu_is Q16 (some 129) 9 from (u16.1.1.is rfl)) ?_
            rw [(u16.1.1.r (p := 129) (j := 1) (q := 130) rfl)]
            refine mw_go mu_g275 (k := 2) (f1 := (214, [(8, .inl (nI (oid (fi q) (ixz (nm (fi q)) f (dgz f P s) P)))), (7, .inl (nI (fi q))), (6, .inl (nI q)), (0, .inr (.inr (some 129))), (3, .inl (nI (cmz nb bo 0 nf))), (4, .inl (((U.1 27).2 b 0) - (nI (cmz nb bo 0 nf)))), (5, .inl (nI mn))], [.inl (4 : Int32), .inl (nI (fi q)), .inr (.inr (some 130)), .inl (nI (oid (fi q) (ixz (nm (fi q)) f (dgz f P s) P))), .inr (.inr (some 129))], Q16)) (C := []) rfl trivial ?_
            refine mw_cIe (fun _ => rfl) (show mu_is Q16 (some 130) 10 from (u16.1.1.is rfl)) (u16.getr (d := (d + 4)) d16 (j := 24) (by decide) rfl (nI (fi q)) (c := 4) (by decide)) ?_
            rw [show (tget ((upT Vb (ax 24 Vb.1 (nI (fi q)) 3 (nI (oid (fi q) (ixz (nm (fi q)) f (dgz f P s) P))))).1 24) (nI (fi q)) 4) = (nI (lv (fi q))) from ((congrArg (fun z => tget z (nI (fi q)) 4) (show (upT Vb (ax 24 Vb.1 (nI (fi q)) 3 (nI (oid (fi q) (ixz (nm (fi q)) f (dgz f P s) P))))).1 24 = ((upT Vb (ax 24 Vb.1 (nI (fi q)) 3 (nI (oid (fi q) (ixz (nm (fi q)) f (dgz f P s) P))))).1 24) from rfl)).trans (tget_nI (by omega))).trans (((hout2.2.1 (fi q) 4 (fun y => absurd y.1 (by decide))).trans hfq.1.2.2.2).trans (lvz_pos hn0))]
            obtain ⟨bf1, bt1, hzz⟩ := hbz
            refine mw_cV (fun _ => rfl) (show mu_is Q16 (some 129) 9 from (u16.1.1.is rfl)) (rl_nto (d := d) (C := C) (k := lv (fi q)) (A := SNG tm lv S (fun r => oid r (ixz (nm r) f (dgz f P s) P)) fi q (lv (fi q))) u16 d16 (spx_keep hS (show ((upT Vb (ax 24 Vb.1 (nI (fi q)) 3 (nI (oid (fi q) (ixz (nm (fi q)) f (dgz f P s) P))))).2.1 99 4) = (U.2.1 99 4) from ((zzb.i 99 4 rfl).trans (zza.i 99 4 rfl))) (show ((upT Vb (ax 24 Vb.1 (nI (fi q)) 3 (nI (oid (fi q) (ixz (nm (fi q)) f (dgz f P s) P))))).2.1 99 10) = (U.2.1 99 10) from ((zzb.i 99 10 rfl).trans (zza.i 99 10 rfl))) (show ((upT Vb (ax 24 Vb.1 (nI (fi q)) 3 (nI (oid (fi q) (ixz (nm (fi q)) f (dgz f P s) P))))).2.1 99 11) = (U.2.1 99 11) from ((zzb.i 99 11 rfl).trans (zza.i 99 11 rfl))) (show ((upT Vb (ax 24 Vb.1 (nI (fi q)) 3 (nI (oid (fi q) (ixz (nm (fi q)) f (dgz f P s) P))))).2.1 99 12) = (U.2.1 99 12) from ((zzb.i 99 12 rfl).trans (zza.i 99 12 rfl))) (show ((upT Vb (ax 24 Vb.1 (nI (fi q)) 3 (nI (oid (fi q) (ixz (nm (fi q)) f (dgz f P s) P))))).2.2.1 99 5) = (U.2.2.1 99 5) from ((zzb.a 99 5 rfl).trans (zza.a 99 5 rfl))) (show ((upT Vb (ax 24 Vb.1 (nI (fi q)) 3 (nI (oid (fi q) (ixz (nm (fi q)) f (dgz f P s) P))))).2.2.1 99 7) = (U.2.2.1 99 7) from ((zzb.a 99 7 rfl).trans (zza.a 99 7 rfl))) (show ((upT Vb (ax 24 Vb.1 (nI (fi q)) 3 (nI (oid (fi q) (ixz (nm (fi q)) f (dgz f P s) P))))).2.2.1 99 6) = (U.2.2.1 99 6) from ((zzb.a 99 6 rfl).trans (zza.a 99 6 rfl))) (show ((upT Vb (ax 24 Vb.1 (nI (fi q)) 3 (nI (oid (fi q) (ixz (nm (fi q)) f (dgz f P s) P))))).2.2.1 99 8).1 = (U.2.2.1 99 8).1 from ((zzb.n 99 8 rfl).trans (zza.n 99 8 rfl))) (show ((upT Vb (ax 24 Vb.1 (nI (fi q)) 3 (nI (oid (fi q) (ixz (nm (fi q)) f (dgz f P s) P))))).2.2.1 99 18).1 = (U.2.2.1 99 18).1 from ((zzb.n 99 18 rfl).trans (zza.n 99 18 rfl))) (show ((upT Vb (ax 24 Vb.1 (nI (fi q)) 3 (nI (oid (fi q) (ixz (nm (fi q)) f (dgz f P s) P))))).2.2.2.1 100 0) = (U.2.2.2.1 100 0) from ((zzb.r 100 0 rfl).trans (zza.r 100 0 rfl))) (show ((upT Vb (ax 24 Vb.1 (nI (fi q)) 3 (nI (oid (fi q) (ixz (nm (fi q)) f (dgz f P s) P))))).2.2.2.1 99 0) = (U.2.2.2.1 99 0) from ((zzb.r 99 0 rfl).trans (zza.r 99 0 rfl)))) hlq (show BZ (upT Vb (ax 24 Vb.1 (nI (fi q)) 3 (nI (oid (fi q) (ixz (nm (fi q)) f (dgz f P s) P))))) bf1 bt1 from hzz) (by rw [(show ((upT Vb (ax 24 Vb.1 (nI (fi q)) 3 (nI (oid (fi q) (ixz (nm (fi q)) f (dgz f P s) P))))).2.2.1 129 12).1 = (U.2.2.1 129 12).1 from ((zzb.n 129 12 rfl).trans (zza.n 129 12 rfl)))]; exact hl12) (by rw [(show ((upT Vb (ax 24 Vb.1 (nI (fi q)) 3 (nI (oid (fi q) (ixz (nm (fi q)) f (dgz f P s) P))))).2.2.1 129 12).1 = (U.2.2.1 129 12).1 from ((zzb.n 129 12 rfl).trans (zza.n 129 12 rfl)))]; exact hl12b) (show OPT (upT Vb (ax 24 Vb.1 (nI (fi q)) 3 (nI (oid (fi q) (ixz (nm (fi q)) f (dgz f P s) P))))) _ _ _ _ from hop (lv (fi q)) hlq) hsa hst (fun x hx => by have y := (hfq.2.2.2 _ hix).2.2.2 x hx; rw [heq, pm_one hlq gP] at y; exact y)) (fun Q23 q23 => ?_)
            obtain ⟨u23, r23, z23, hbz2, ho2, hc2, hd2⟩ := q23
            have ht23 : ur m C H Q23 := ht16.trans r23
            obtain ⟨V23, d23⟩ : ∃ V, ud m Q23 = V := ⟨_, rfl⟩
            rw [d23] at z23 hbz2 ho2 hc2 hd2
            have qf23 : uq F275 U V23 := qf16.tr z23 rfl
            refine mw_go mu_g275 (k := 1) (f1 := (223, [(6, .inl ((nI q) + 1)), (8, .inl (nI (oid (fi q) (ixz (nm (fi q)) f (dgz f P s) P)))), (7, .inl (nI (fi q))), (0, .inr (.inr (some 129))), (3, .inl (nI (cmz nb bo 0 nf))), (4, .inl (((U.1 27).2 b 0) - (nI (cmz nb bo 0 nf)))), (5, .inl (nI mn))], [], Q23)) (C := []) rfl trivial ?_
            rw [(show ((nI q) + 1) = (nI (q + 1)) from (nI_add q 1))]
            refine mw_go mu_g275 (k := 1) (f1 := (102, [(6, .inl (nI (q + 1))), (8, .inl (nI (oid (fi q) (ixz (nm (fi q)) f (dgz f P s) P)))), (7, .inl (nI (fi q))), (0, .inr (.inr (some 129))), (3, .inl (nI (cmz nb bo 0 nf))), (4, .inl (((U.1 27).2 b 0) - (nI (cmz nb bo 0 nf)))), (5, .inl (nI mn))], [], Q23)) (C := []) rfl trivial ?_
            exact mw_sub (by simp) (ihb (q + 1, Q23) ⟨u23, ht23, (show uq F275b Va (ud m Q23) from by rw [d23]; exact ((zzb.T (fun q hq => by first | exact ax_ne (in1_ne rfl hq) | exact ap_ne (in1_ne rfl hq) | exact fu_ne _ _ (in1_ne rfl hq))).tr z23 rfl)), (show (q + 1) ≤ mn from (by omega)), (show OUT U (ud m Q23) fi (q + 1) (fun r => oid r (ixz (nm r) f (dgz f P s) P)) from by rw [d23]; exact (hout2.eq (z23.t 24 rfl))), (show ∀ k, k < P → OPT (ud m Q23) (sm f 0 k) (f k) k (SNG tm lv S (fun r => oid r (ixz (nm r) f (dgz f P s) P)) fi (q + 1) k) from by rw [d23]; exact (fun j hj => by by_cases e1 : j = lv (fi q); (rw [e1]; exact ho2.congr (fun x _ => ⟨fun y r hr h1 h2 => by by_cases e0 : r = q; (rw [e0]; exact y.2); exact y.1 r (by omega) h1 h2, fun y => ⟨fun r hr h1 h2 => y r (by omega) h1 h2, y q (by omega) rfl heq⟩⟩)); (refine OPT.congr (A := SNG tm lv S (fun r => oid r (ixz (nm r) f (dgz f P s) P)) fi q j) (OPT.other (show OPT (upT Vb (ax 24 Vb.1 (nI (fi q)) 3 (nI (oid (fi q) (ixz (nm (fi q)) f (dgz f P s) P))))) (sm f 0 j) (f j) j _ from hop j hj) (hc2 j e1) (fun x h1 h2 => hd2 x (by have y1 := sm_seg (f := f) (k := j) (P := lv (fi q)); have y2 := sm_seg (f := f) (k := lv (fi q)) (P := j); omega))) (fun x _ => ⟨fun y r hr h1 h2 => by by_cases e0 : r = q; (rw [e0] at h1; exact absurd h1.symm e1); exact y r (by omega) h1 h2, fun y r hr h1 h2 => y r (by omega) h1 h2⟩)))), (show ∃ bf' bt', BZ (ud m Q23) bf' bt' from by rw [d23]; exact hbz2)⟩ (by show mn - (q + 1) < mn - q; omega))
      · -- 120: not (nI q) < (nI (cmz nb bo 0 nf))
        have nh12 : ¬ q < (cmz nb bo 0 nf) := fun z => h12 (show nI q < nI (cmz nb bo 0 nf) from (nI_ltI (by omega) (by omega)).mpr z)
        refine mw_go mu_g275 (k := 3) (f1 := (125, [(6, .inl (nI q)), (0, .inr (.inr (some 129))), (3, .inl (nI (cmz nb bo 0 nf))), (4, .inl (((U.1 27).2 b 0) - (nI (cmz nb bo 0 nf)))), (5, .inl (nI mn))], [.inl ((nI q) + (((U.1 27).2 b 0) - (nI (cmz nb bo 0 nf))))], Hsb)) (C := []) rfl trivial ?_
        rw [show ((nI q) + (((U.1 27).2 b 0) - (nI (cmz nb bo 0 nf)))) = nI (fi q) from hfB q (by omega) (by omega)]
        refine mw_go mu_g275 (k := 3) (f1 := (131, [(7, .inl (nI (fi q))), (6, .inl (nI q)), (0, .inr (.inr (some 129))), (3, .inl (nI (cmz nb bo 0 nf))), (4, .inl (((U.1 27).2 b 0) - (nI (cmz nb bo 0 nf)))), (5, .inl (nI mn))], [.inr (.inr (mu_r Hsb 129 4))], Hsb)) (C := [mu_is Hsb (some 129) 9]) rfl (show mu_is Hsb (some 129) 9 from (ub.1.1.is rfl)) ?_
        rw [(show mu_r Hsb 129 4 = (U.2.2.2.1 129 4) from (ud_q (U := Vb) (m := m) (P := 129) (j := 4) db rfl).trans ((zzb.r 129 4 rfl).trans (zza.r 129 4 rfl)))]
        refine mw_go mu_g275 (k := 2) (f1 := (135, [(7, .inl (nI (fi q))), (6, .inl (nI q)), (0, .inr (.inr (some 129))), (3, .inl (nI (cmz nb bo 0 nf))), (4, .inl (((U.1 27).2 b 0) - (nI (cmz nb bo 0 nf)))), (5, .inl (nI mn))], [.inr (.inr (mu_r Hsb 129 1)), .inr (.inr (U.2.2.2.1 129 4))], Hsb)) (C := [mu_is Hsb (some 129) 9]) rfl (show mu_is Hsb (some 129) 9 from (ub.1.1.is rfl)) ?_
        rw [(ub.1.1.r (p := 129) (j := 1) (q := 130) rfl)]
        refine mw_go mu_g275 (k := 2) (f1 := (138, [(7, .inl (nI (fi q))), (6, .inl (nI q)), (0, .inr (.inr (some 129))), (3, .inl (nI (cmz nb bo 0 nf))), (4, .inl (((U.1 27).2 b 0) - (nI (cmz nb bo 0 nf)))), (5, .inl (nI mn))], [.inl (2 : Int32), .inl (nI (fi q)), .inr (.inr (some 130)), .inr (.inr (U.2.2.2.1 129 4))], Hsb)) (C := []) rfl trivial ?_
        refine mw_cIe (fun _ => rfl) (show mu_is Hsb (some 130) 10 from (ub.1.1.is rfl)) (ub.getr (d := (d + 4)) db (j := 24) (by decide) rfl (nI (fi q)) (c := 2) (by decide)) ?_
        rw [show (tget (Vb.1 24) (nI (fi q)) 2) = (nI (bs (fi q))) from ((congrArg (fun z => tget z (nI (fi q)) 2) (show Vb.1 24 = (Vb.1 24) from rfl)).trans (tget_nI (by omega))).trans ((hout.2.1 (fi q) 2 (fun y => absurd y.1 (by decide))).trans hfq.1.2.2.1)]
        refine mw_go mu_g275 (k := 3) (f1 := (146, [(7, .inl (nI (fi q))), (6, .inl (nI q)), (0, .inr (.inr (some 129))), (3, .inl (nI (cmz nb bo 0 nf))), (4, .inl (((U.1 27).2 b 0) - (nI (cmz nb bo 0 nf)))), (5, .inl (nI mn))], [.inr (.inr (mu_r Hsb 129 1)), .inr (.inr (some 129)), .inl (nI (bs (fi q))), .inr (.inr (U.2.2.2.1 129 4))], Hsb)) (C := [mu_is Hsb (some 129) 9]) rfl (show mu_is Hsb (some 129) 9 from (ub.1.1.is rfl)) ?_
        rw [(ub.1.1.r (p := 129) (j := 1) (q := 130) rfl)]
        refine mw_go mu_g275 (k := 2) (f1 := (149, [(7, .inl (nI (fi q))), (6, .inl (nI q)), (0, .inr (.inr (some 129))), (3, .inl (nI (cmz nb bo 0 nf))), (4, .inl (((U.1 27).2 b 0) - (nI (cmz nb bo 0 nf)))), (5, .inl (nI mn))], [.inl (0 : Int32), .inl (nI (fi q)), .inr (.inr (some 130)), .inr (.inr (some 129)), .inl (nI (bs (fi q))), .inr (.inr (U.2.2.2.1 129 4))], Hsb)) (C := []) rfl trivial ?_
        refine mw_cIe (fun _ => rfl) (show mu_is Hsb (some 130) 10 from (ub.1.1.is rfl)) (ub.getr (d := (d + 4)) db (j := 24) (by decide) rfl (nI (fi q)) (c := 0) (by decide)) ?_
        rw [show (tget (Vb.1 24) (nI (fi q)) 0) = (nm (fi q)) from ((congrArg (fun z => tget z (nI (fi q)) 0) (show Vb.1 24 = (Vb.1 24) from rfl)).trans (tget_nI (by omega))).trans ((hout.2.1 (fi q) 0 (fun y => absurd y.1 (by decide))).trans hfq.1.1)]
        refine mw_cIe (fun _ => rfl) (show mu_is Hsb (some 129) 9 from (ub.1.1.is rfl)) (rl_index (d := (d + 4)) (dg := dgz f P s) (mk := nm (fi q)) ub db (spx_keep hS (show (Vb.2.1 99 4) = (U.2.1 99 4) from ((zzb.i 99 4 rfl).trans (zza.i 99 4 rfl))) (show (Vb.2.1 99 10) = (U.2.1 99 10) from ((zzb.i 99 10 rfl).trans (zza.i 99 10 rfl))) (show (Vb.2.1 99 11) = (U.2.1 99 11) from ((zzb.i 99 11 rfl).trans (zza.i 99 11 rfl))) (show (Vb.2.1 99 12) = (U.2.1 99 12) from ((zzb.i 99 12 rfl).trans (zza.i 99 12 rfl))) (show (Vb.2.2.1 99 5) = (U.2.2.1 99 5) from ((zzb.a 99 5 rfl).trans (zza.a 99 5 rfl))) (show (Vb.2.2.1 99 7) = (U.2.2.1 99 7) from ((zzb.a 99 7 rfl).trans (zza.a 99 7 rfl))) (show (Vb.2.2.1 99 6) = (U.2.2.1 99 6) from ((zzb.a 99 6 rfl).trans (zza.a 99 6 rfl))) (show (Vb.2.2.1 99 8).1 = (U.2.2.1 99 8).1 from ((zzb.n 99 8 rfl).trans (zza.n 99 8 rfl))) (show (Vb.2.2.1 99 18).1 = (U.2.2.1 99 18).1 from ((zzb.n 99 18 rfl).trans (zza.n 99 18 rfl))) (show (Vb.2.2.2.1 100 0) = (U.2.2.2.1 100 0) from ((zzb.r 100 0 rfl).trans (zza.r 100 0 rfl))) (show (Vb.2.2.2.1 99 0) = (U.2.2.2.1 99 0) from ((zzb.r 99 0 rfl).trans (zza.r 99 0 rfl)))) (by rw [(show (Vb.2.2.1 129 16) = (Va.2.2.1 129 16) from (zzb.a 129 16 rfl))]; exact hdg)) ?_
        have hix := ixz_lt (mk := nm (fi q)) (f := f) (dg := dgz f P s) (n := P) (fun k _ => dgz_lt hf1)
        refine mw_go mu_g275 (k := 1) (f1 := (156, [(7, .inl (nI (fi q))), (6, .inl (nI q)), (0, .inr (.inr (some 129))), (3, .inl (nI (cmz nb bo 0 nf))), (4, .inl (((U.1 27).2 b 0) - (nI (cmz nb bo 0 nf)))), (5, .inl (nI mn))], [.inl ((nI (bs (fi q))) + (nI (ixz (nm (fi q)) f (dgz f P s) P))), .inr (.inr (U.2.2.2.1 129 4))], Hsb)) (C := []) rfl trivial ?_
        rw [(show ((nI (bs (fi q))) + (nI (ixz (nm (fi q)) f (dgz f P s) P))) = (nI ((bs (fi q)) + (ixz (nm (fi q)) f (dgz f P s) P))) from (nI_add (bs (fi q)) (ixz (nm (fi q)) f (dgz f P s) P)))]
        refine mw_go mu_g275 (k := 1) (f1 := (157, [(7, .inl (nI (fi q))), (6, .inl (nI q)), (0, .inr (.inr (some 129))), (3, .inl (nI (cmz nb bo 0 nf))), (4, .inl (((U.1 27).2 b 0) - (nI (cmz nb bo 0 nf)))), (5, .inl (nI mn))], [.inl (mu_i Hsb (mu_p (U.2.2.2.1 129 4)) (nI ((bs (fi q)) + (ixz (nm (fi q)) f (dgz f P s) P))).toNatClampNeg)], Hsb)) (C := [mu_isr Hsb (U.2.2.2.1 129 4) 100, vp_in (nI ((bs (fi q)) + (ixz (nm (fi q)) f (dgz f P s) P))) (mu_n Hsb (mu_p (U.2.2.2.1 129 4)))]) rfl (show (mu_isr Hsb (U.2.2.2.1 129 4) 100) ∧ (vp_in (nI ((bs (fi q)) + (ixz (nm (fi q)) f (dgz f P s) P))) (mu_n Hsb (mu_p (U.2.2.2.1 129 4)))) from ⟨((ub.iA db rfl rfl (show Vb.2.2.2.1 129 4 = (U.2.2.2.1 129 4) from ((zzb.r 129 4 rfl).trans (zza.r 129 4 rfl))))).r, (ub.vA (i := (bs (fi q)) + (ixz (nm (fi q)) f (dgz f P s) P)) db rfl rfl (show Vb.2.2.2.1 129 4 = (U.2.2.2.1 129 4) from ((zzb.r 129 4 rfl).trans (zza.r 129 4 rfl))) (show (Vb.2.2.1 129 4).1 = (U.2.2.1 129 4).1 from ((zzb.n 129 4 rfl).trans (zza.n 129 4 rfl))) (by omega) (by omega))⟩) ?_
        rw [(show (mu_i Hsb (mu_p (U.2.2.2.1 129 4)) (nI ((bs (fi q)) + (ixz (nm (fi q)) f (dgz f P s) P))).toNatClampNeg) = (nI (oid (fi q) (ixz (nm (fi q)) f (dgz f P s) P))) from ((congrArg (mu_i Hsb (mu_p (U.2.2.2.1 129 4))) (show (nI ((bs (fi q)) + (ixz (nm (fi q)) f (dgz f P s) P))).toNatClampNeg = (bs (fi q)) + (ixz (nm (fi q)) f (dgz f P s) P) from nI_clamp (by omega))).trans (ub.gA db rfl rfl (show Vb.2.2.2.1 129 4 = (U.2.2.2.1 129 4) from ((zzb.r 129 4 rfl).trans (zza.r 129 4 rfl))))).trans ((congrArg (fun z => z.2 ((bs (fi q)) + (ixz (nm (fi q)) f (dgz f P s) P))) (show Vb.2.2.1 129 4 = (U.2.2.1 129 4) from ((zzb.a 129 4 rfl).trans (zza.a 129 4 rfl)))).trans (hfq.2.2.2 _ hix).1))]
        refine mw_go mu_g275 (k := 3) (f1 := (163, [(8, .inl (nI (oid (fi q) (ixz (nm (fi q)) f (dgz f P s) P)))), (7, .inl (nI (fi q))), (6, .inl (nI q)), (0, .inr (.inr (some 129))), (3, .inl (nI (cmz nb bo 0 nf))), (4, .inl (((U.1 27).2 b 0) - (nI (cmz nb bo 0 nf)))), (5, .inl (nI mn))], [.inr (.inr (mu_r Hsb 129 1))], Hsb)) (C := [mu_is Hsb (some 129) 9]) rfl (show mu_is Hsb (some 129) 9 from (ub.1.1.is rfl)) ?_
        rw [(ub.1.1.r (p := 129) (j := 1) (q := 130) rfl)]
        refine mw_go mu_g275 (k := 3) (f1 := (168, [(8, .inl (nI (oid (fi q) (ixz (nm (fi q)) f (dgz f P s) P)))), (7, .inl (nI (fi q))), (6, .inl (nI q)), (0, .inr (.inr (some 129))), (3, .inl (nI (cmz nb bo 0 nf))), (4, .inl (((U.1 27).2 b 0) - (nI (cmz nb bo 0 nf)))), (5, .inl (nI mn))], [.inl (nI (oid (fi q) (ixz (nm (fi q)) f (dgz f P s) P))), .inl (3 : Int32), .inl (nI (fi q)), .inr (.inr (some 130))], Hsb)) (C := []) rfl trivial ?_
        refine mw_cV (fun _ => rfl) (show mu_is Hsb (some 130) 10 from (ub.1.1.is rfl)) (ub.setr (C := C) (d := (d + 4)) db (j := 24) (Or.inr ⟨by decide, by decide⟩) rfl (nI (fi q)) (nI (oid (fi q) (ixz (nm (fi q)) f (dgz f P s) P))) (c := 3) (by decide)) (fun Q27 q27 => ?_)
        obtain ⟨u27, r27, d27⟩ := q27
        have ht27 : ur m C H Q27 := htb.trans r27
        have qf27 : uq F275 U (upT Vb (ax 24 Vb.1 (nI (fi q)) 3 (nI (oid (fi q) (ixz (nm (fi q)) f (dgz f P s) P))))) := qfb.ax rfl
        have hout2 : OUT U (upT Vb (ax 24 Vb.1 (nI (fi q)) 3 (nI (oid (fi q) (ixz (nm (fi q)) f (dgz f P s) P))))) fi (q + 1) (fun r => oid r (ixz (nm r) f (dgz f P s) P)) := hout.step (by rw [hFA.1.1]; omega) (by rw [hFA.1.1]; omega) (fun i hi y => by have := hfJ i q y (by omega) (by omega); omega)
        refine mw_go mu_g275 (k := 2) (f1 := (175, [(8, .inl (nI (oid (fi q) (ixz (nm (fi q)) f (dgz f P s) P)))), (7, .inl (nI (fi q))), (6, .inl (nI q)), (0, .inr (.inr (some 129))), (3, .inl (nI (cmz nb bo 0 nf))), (4, .inl (((U.1 27).2 b 0) - (nI (cmz nb bo 0 nf)))), (5, .inl (nI mn))], [.inr (.inr (mu_r Q27 129 0))], Q27)) (C := [mu_is Q27 (some 129) 9]) rfl (show mu_is Q27 (some 129) 9 from (u27.1.1.is rfl)) ?_
        rw [(u27.1.1.r (p := 129) (j := 0) (q := 99) rfl)]
        refine mw_go mu_g275 (k := 1) (f1 := (178, [(8, .inl (nI (oid (fi q) (ixz (nm (fi q)) f (dgz f P s) P)))), (7, .inl (nI (fi q))), (6, .inl (nI q)), (0, .inr (.inr (some 129))), (3, .inl (nI (cmz nb bo 0 nf))), (4, .inl (((U.1 27).2 b 0) - (nI (cmz nb bo 0 nf)))), (5, .inl (nI mn))], [.inr (.inr (mu_r Q27 99 2))], Q27)) (C := [mu_is Q27 (some 99) 13]) rfl (show mu_is Q27 (some 99) 13 from (u27.1.1.is rfl)) ?_
        rw [(u27.1.1.r (p := 99) (j := 2) (q := 113) rfl)]
        refine mw_go mu_g275 (k := 1) (f1 := (180, [(8, .inl (nI (oid (fi q) (ixz (nm (fi q)) f (dgz f P s) P)))), (7, .inl (nI (fi q))), (6, .inl (nI q)), (0, .inr (.inr (some 129))), (3, .inl (nI (cmz nb bo 0 nf))), (4, .inl (((U.1 27).2 b 0) - (nI (cmz nb bo 0 nf)))), (5, .inl (nI mn))], [.inl (nI (oid (fi q) (ixz (nm (fi q)) f (dgz f P s) P))), .inr (.inr (some 113))], Q27)) (C := []) rfl trivial ?_
        have hSv : SOK (upT Vb (ax 24 Vb.1 (nI (fi q)) 3 (nI (oid (fi q) (ixz (nm (fi q)) f (dgz f P s) P))))) N us S z p := hSK.eq (show ((upT Vb (ax 24 Vb.1 (nI (fi q)) 3 (nI (oid (fi q) (ixz (nm (fi q)) f (dgz f P s) P))))).2.1 113 1) = (U.2.1 113 1) from ((zzb.i 113 1 rfl).trans (zza.i 113 1 rfl))) (show ((upT Vb (ax 24 Vb.1 (nI (fi q)) 3 (nI (oid (fi q) (ixz (nm (fi q)) f (dgz f P s) P))))).2.1 113 2) = (U.2.1 113 2) from ((zzb.i 113 2 rfl).trans (zza.i 113 2 rfl))) (show ((upT Vb (ax 24 Vb.1 (nI (fi q)) 3 (nI (oid (fi q) (ixz (nm (fi q)) f (dgz f P s) P))))).2.1 113 5) = (U.2.1 113 5) from ((zzb.i 113 5 rfl).trans (zza.i 113 5 rfl))) (show ((upT Vb (ax 24 Vb.1 (nI (fi q)) 3 (nI (oid (fi q) (ixz (nm (fi q)) f (dgz f P s) P))))).2.2.1 113 3) = (U.2.2.1 113 3) from ((zzb.a 113 3 rfl).trans (zza.a 113 3 rfl))) (show ((upT Vb (ax 24 Vb.1 (nI (fi q)) 3 (nI (oid (fi q) (ixz (nm (fi q)) f (dgz f P s) P))))).2.2.1 113 4) = (U.2.2.1 113 4) from ((zzb.a 113 4 rfl).trans (zza.a 113 4 rfl))) (congrFun (show (upT Vb (ax 24 Vb.1 (nI (fi q)) 3 (nI (oid (fi q) (ixz (nm (fi q)) f (dgz f P s) P))))).2.2.2.2.2 = U.2.2.2.2.2 from ((zzb.2.2.2.2.2 rfl).trans (zza.2.2.2.2.2 rfl))) 114)
        obtain ⟨st, fc, hsa, hst, hsz, -, -, -⟩ := hSv.2.2.2.2.1 (oid (fi q) (ixz (nm (fi q)) f (dgz f P s) P)) (hfq.2.2.2 _ hix).2.1 (hfq.2.2.2 _ hix).2.2.1
        refine mw_cIe (fun _ => rfl) (show mu_is Q27 (some 113) 11 from (u27.1.1.is rfl)) (st_size (d := (d + 4)) u27 d27 hsa) ?_
        refine mw_if (P := (nI (hsz fc st)) = 0) (a := 186) (b := 188) (fun _ => rfl) trivial (fun h29 => ?_) (fun h29 => ?_)
        · -- 186: (nI (hsz fc st)) = 0
          have nh29 : (hsz fc st) = 0 := (nI_eq (by omega) (by omega)).mp (show nI (hsz fc st) = nI 0 from h29)
          refine mw_go mu_g275 (k := 1) (f1 := (187, [(8, .inl (nI (oid (fi q) (ixz (nm (fi q)) f (dgz f P s) P)))), (7, .inl (nI (fi q))), (6, .inl (nI q)), (0, .inr (.inr (some 129))), (3, .inl (nI (cmz nb bo 0 nf))), (4, .inl (((U.1 27).2 b 0) - (nI (cmz nb bo 0 nf)))), (5, .inl (nI mn))], [.inl (0 : Int32)], Q27)) (C := []) rfl trivial ?_
          have hbzE : ∃ bf' bt', BZ (upT Vb (ax 24 Vb.1 (nI (fi q)) 3 (nI (oid (fi q) (ixz (nm (fi q)) f (dgz f P s) P))))) bf' bt' := hbz
          exact mw_of (fun _ => mu_ret rfl (Or.inl rfl) ⟨(0 : Int32), Q27, rfl, u27, ht27, (by rw [d27]; exact qf27), (by rw [d27]; exact ((zzb.i 129 21 rfl).trans (zza.i 129 21 rfl))), (by rw [d27]; exact ((zzb.i 129 11 rfl).trans (zza.i 129 11 rfl))), (by rw [d27]; exact hbzE), Or.inl ⟨rfl, q, by omega, SOK.empty hSv (hfq.2.2.2 _ hix).2.1 (by omega)⟩⟩)
        · -- 188: not (nI (hsz fc st)) = 0
          have nh29 : ¬ (hsz fc st) = 0 := fun z => h29 (show nI (hsz fc st) = nI 0 from (nI_eq (by omega) (by omega)).mpr z)
          refine mw_go mu_g275 (k := 2) (f1 := (192, [(8, .inl (nI (oid (fi q) (ixz (nm (fi q)) f (dgz f P s) P)))), (7, .inl (nI (fi q))), (6, .inl (nI q)), (0, .inr (.inr (some 129))), (3, .inl (nI (cmz nb bo 0 nf))), (4, .inl (((U.1 27).2 b 0) - (nI (cmz nb bo 0 nf)))), (5, .inl (nI mn))], [.inr (.inr (mu_r Q27 129 1))], Q27)) (C := [mu_is Q27 (some 129) 9]) rfl (show mu_is Q27 (some 129) 9 from (u27.1.1.is rfl)) ?_
          rw [(u27.1.1.r (p := 129) (j := 1) (q := 130) rfl)]
          refine mw_go mu_g275 (k := 2) (f1 := (195, [(8, .inl (nI (oid (fi q) (ixz (nm (fi q)) f (dgz f P s) P)))), (7, .inl (nI (fi q))), (6, .inl (nI q)), (0, .inr (.inr (some 129))), (3, .inl (nI (cmz nb bo 0 nf))), (4, .inl (((U.1 27).2 b 0) - (nI (cmz nb bo 0 nf)))), (5, .inl (nI mn))], [.inl (1 : Int32), .inl (nI (fi q)), .inr (.inr (some 130))], Q27)) (C := []) rfl trivial ?_
          refine mw_cIe (fun _ => rfl) (show mu_is Q27 (some 130) 10 from (u27.1.1.is rfl)) (u27.getr (d := (d + 4)) d27 (j := 24) (by decide) rfl (nI (fi q)) (c := 1) (by decide)) ?_
          rw [show (tget ((upT Vb (ax 24 Vb.1 (nI (fi q)) 3 (nI (oid (fi q) (ixz (nm (fi q)) f (dgz f P s) P))))).1 24) (nI (fi q)) 1) = (tm (fi q)) from ((congrArg (fun z => tget z (nI (fi q)) 1) (show (upT Vb (ax 24 Vb.1 (nI (fi q)) 3 (nI (oid (fi q) (ixz (nm (fi q)) f (dgz f P s) P))))).1 24 = ((upT Vb (ax 24 Vb.1 (nI (fi q)) 3 (nI (oid (fi q) (ixz (nm (fi q)) f (dgz f P s) P))))).1 24) from rfl)).trans (tget_nI (by omega))).trans ((hout2.2.1 (fi q) 1 (fun y => absurd y.1 (by decide))).trans hfq.1.2.1)]
          refine mw_cIe (fun _ => rfl) trivial (rl_one (d := (d + 4))) ?_
          refine mw_if (P := (one1 (tm (fi q))) = 0) (a := 220) (b := 204) (fun _ => rfl) trivial (fun h32 => ?_) (fun h32 => ?_)
          · -- 220: (one1 (tm (fi q))) = 0
            have hne := hfq.2.1.no h32
            refine mw_go mu_g275 (k := 1) (f1 := (223, [(6, .inl ((nI q) + 1)), (8, .inl (nI (oid (fi q) (ixz (nm (fi q)) f (dgz f P s) P)))), (7, .inl (nI (fi q))), (0, .inr (.inr (some 129))), (3, .inl (nI (cmz nb bo 0 nf))), (4, .inl (((U.1 27).2 b 0) - (nI (cmz nb bo 0 nf)))), (5, .inl (nI mn))], [], Q27)) (C := []) rfl trivial ?_
            rw [(show ((nI q) + 1) = (nI (q + 1)) from (nI_add q 1))]
            refine mw_go mu_g275 (k := 1) (f1 := (102, [(6, .inl (nI (q + 1))), (8, .inl (nI (oid (fi q) (ixz (nm (fi q)) f (dgz f P s) P)))), (7, .inl (nI (fi q))), (0, .inr (.inr (some 129))), (3, .inl (nI (cmz nb bo 0 nf))), (4, .inl (((U.1 27).2 b 0) - (nI (cmz nb bo 0 nf)))), (5, .inl (nI mn))], [], Q27)) (C := []) rfl trivial ?_
            exact mw_sub (by simp) (ihb (q + 1, Q27) ⟨u27, ht27, (show uq F275b Va (ud m Q27) from by rw [d27]; exact (zzb.T (fun q hq => by first | exact ax_ne (in1_ne rfl hq) | exact ap_ne (in1_ne rfl hq) | exact fu_ne _ _ (in1_ne rfl hq)))), (show (q + 1) ≤ mn from (by omega)), (show OUT U (ud m Q27) fi (q + 1) (fun r => oid r (ixz (nm r) f (dgz f P s) P)) from by rw [d27]; exact hout2), (show ∀ k, k < P → OPT (ud m Q27) (sm f 0 k) (f k) k (SNG tm lv S (fun r => oid r (ixz (nm r) f (dgz f P s) P)) fi (q + 1) k) from by rw [d27]; exact (fun j hj => (show OPT (upT Vb (ax 24 Vb.1 (nI (fi q)) 3 (nI (oid (fi q) (ixz (nm (fi q)) f (dgz f P s) P))))) (sm f 0 j) (f j) j _ from hop j hj).congr (fun x _ => ⟨fun y r hr h1 h2 => by by_cases e0 : r = q; (rw [e0] at h1 h2; exact absurd (h1 ▸ h2) hne); exact y r (by omega) h1 h2, fun y r hr h1 h2 => y r (by omega) h1 h2⟩))), (show ∃ bf' bt', BZ (ud m Q27) bf' bt' from by rw [d27]; exact hbz)⟩ (by show mn - (q + 1) < mn - q; omega))
          · -- 204: not (one1 (tm (fi q))) = 0
            obtain ⟨heq, hlq, hn0⟩ := hfq.2.1.yes h32
            refine mw_go mu_g275 (k := 4) (f1 := (211, [(8, .inl (nI (oid (fi q) (ixz (nm (fi q)) f (dgz f P s) P)))), (7, .inl (nI (fi q))), (6, .inl (nI q)), (0, .inr (.inr (some 129))), (3, .inl (nI (cmz nb bo 0 nf))), (4, .inl (((U.1 27).2 b 0) - (nI (cmz nb bo 0 nf)))), (5, .inl (nI mn))], [.inr (.inr (mu_r Q27 129 1)), .inl (nI (oid (fi q) (ixz (nm (fi q)) f (dgz f P s) P))), .inr (.inr (some 129))], Q27)) (C := [mu_is Q27 (some 129) 9]) rfl (show mu_is Q27 (some 129) 9 from (u27.1.1.is rfl)) ?_
            rw [(u27.1.1.r (p := 129) (j := 1) (q := 130) rfl)]
            refine mw_go mu_g275 (k := 2) (f1 := (214, [(8, .inl (nI (oid (fi q) (ixz (nm (fi q)) f (dgz f P s) P)))), (7, .inl (nI (fi q))), (6, .inl (nI q)), (0, .inr (.inr (some 129))), (3, .inl (nI (cmz nb bo 0 nf))), (4, .inl (((U.1 27).2 b 0) - (nI (cmz nb bo 0 nf)))), (5, .inl (nI mn))], [.inl (4 : Int32), .inl (nI (fi q)), .inr (.inr (some 130)), .inl (nI (oid (fi q) (ixz (nm (fi q)) f (dgz f P s) P))), .inr (.inr (some 129))], Q27)) (C := []) rfl trivial ?_
            refine mw_cIe (fun _ => rfl) (show mu_is Q27 (some 130) 10 from (u27.1.1.is rfl)) (u27.getr (d := (d + 4)) d27 (j := 24) (by decide) rfl (nI (fi q)) (c := 4) (by decide)) ?_
            rw [show (tget ((upT Vb (ax 24 Vb.1 (nI (fi q)) 3 (nI (oid (fi q) (ixz (nm (fi q)) f (dgz f P s) P))))).1 24) (nI (fi q)) 4) = (nI (lv (fi q))) from ((congrArg (fun z => tget z (nI (fi q)) 4) (show (upT Vb (ax 24 Vb.1 (nI (fi q)) 3 (nI (oid (fi q) (ixz (nm (fi q)) f (dgz f P s) P))))).1 24 = ((upT Vb (ax 24 Vb.1 (nI (fi q)) 3 (nI (oid (fi q) (ixz (nm (fi q)) f (dgz f P s) P))))).1 24) from rfl)).trans (tget_nI (by omega))).trans (((hout2.2.1 (fi q) 4 (fun y => absurd y.1 (by decide))).trans hfq.1.2.2.2).trans (lvz_pos hn0))]
            obtain ⟨bf1, bt1, hzz⟩ := hbz
            refine mw_cV (fun _ => rfl) (show mu_is Q27 (some 129) 9 from (u27.1.1.is rfl)) (rl_nto (d := d) (C := C) (k := lv (fi q)) (A := SNG tm lv S (fun r => oid r (ixz (nm r) f (dgz f P s) P)) fi q (lv (fi q))) u27 d27 (spx_keep hS (show ((upT Vb (ax 24 Vb.1 (nI (fi q)) 3 (nI (oid (fi q) (ixz (nm (fi q)) f (dgz f P s) P))))).2.1 99 4) = (U.2.1 99 4) from ((zzb.i 99 4 rfl).trans (zza.i 99 4 rfl))) (show ((upT Vb (ax 24 Vb.1 (nI (fi q)) 3 (nI (oid (fi q) (ixz (nm (fi q)) f (dgz f P s) P))))).2.1 99 10) = (U.2.1 99 10) from ((zzb.i 99 10 rfl).trans (zza.i 99 10 rfl))) (show ((upT Vb (ax 24 Vb.1 (nI (fi q)) 3 (nI (oid (fi q) (ixz (nm (fi q)) f (dgz f P s) P))))).2.1 99 11) = (U.2.1 99 11) from ((zzb.i 99 11 rfl).trans (zza.i 99 11 rfl))) (show ((upT Vb (ax 24 Vb.1 (nI (fi q)) 3 (nI (oid (fi q) (ixz (nm (fi q)) f (dgz f P s) P))))).2.1 99 12) = (U.2.1 99 12) from ((zzb.i 99 12 rfl).trans (zza.i 99 12 rfl))) (show ((upT Vb (ax 24 Vb.1 (nI (fi q)) 3 (nI (oid (fi q) (ixz (nm (fi q)) f (dgz f P s) P))))).2.2.1 99 5) = (U.2.2.1 99 5) from ((zzb.a 99 5 rfl).trans (zza.a 99 5 rfl))) (show ((upT Vb (ax 24 Vb.1 (nI (fi q)) 3 (nI (oid (fi q) (ixz (nm (fi q)) f (dgz f P s) P))))).2.2.1 99 7) = (U.2.2.1 99 7) from ((zzb.a 99 7 rfl).trans (zza.a 99 7 rfl))) (show ((upT Vb (ax 24 Vb.1 (nI (fi q)) 3 (nI (oid (fi q) (ixz (nm (fi q)) f (dgz f P s) P))))).2.2.1 99 6) = (U.2.2.1 99 6) from ((zzb.a 99 6 rfl).trans (zza.a 99 6 rfl))) (show ((upT Vb (ax 24 Vb.1 (nI (fi q)) 3 (nI (oid (fi q) (ixz (nm (fi q)) f (dgz f P s) P))))).2.2.1 99 8).1 = (U.2.2.1 99 8).1 from ((zzb.n 99 8 rfl).trans (zza.n 99 8 rfl))) (show ((upT Vb (ax 24 Vb.1 (nI (fi q)) 3 (nI (oid (fi q) (ixz (nm (fi q)) f (dgz f P s) P))))).2.2.1 99 18).1 = (U.2.2.1 99 18).1 from ((zzb.n 99 18 rfl).trans (zza.n 99 18 rfl))) (show ((upT Vb (ax 24 Vb.1 (nI (fi q)) 3 (nI (oid (fi q) (ixz (nm (fi q)) f (dgz f P s) P))))).2.2.2.1 100 0) = (U.2.2.2.1 100 0) from ((zzb.r 100 0 rfl).trans (zza.r 100 0 rfl))) (show ((upT Vb (ax 24 Vb.1 (nI (fi q)) 3 (nI (oid (fi q) (ixz (nm (fi q)) f (dgz f P s) P))))).2.2.2.1 99 0) = (U.2.2.2.1 99 0) from ((zzb.r 99 0 rfl).trans (zza.r 99 0 rfl)))) hlq (show BZ (upT Vb (ax 24 Vb.1 (nI (fi q)) 3 (nI (oid (fi q) (ixz (nm (fi q)) f (dgz f P s) P))))) bf1 bt1 from hzz) (by rw [(show ((upT Vb (ax 24 Vb.1 (nI (fi q)) 3 (nI (oid (fi q) (ixz (nm (fi q)) f (dgz f P s) P))))).2.2.1 129 12).1 = (U.2.2.1 129 12).1 from ((zzb.n 129 12 rfl).trans (zza.n 129 12 rfl)))]; exact hl12) (by rw [(show ((upT Vb (ax 24 Vb.1 (nI (fi q)) 3 (nI (oid (fi q) (ixz (nm (fi q)) f (dgz f P s) P))))).2.2.1 129 12).1 = (U.2.2.1 129 12).1 from ((zzb.n 129 12 rfl).trans (zza.n 129 12 rfl)))]; exact hl12b) (show OPT (upT Vb (ax 24 Vb.1 (nI (fi q)) 3 (nI (oid (fi q) (ixz (nm (fi q)) f (dgz f P s) P))))) _ _ _ _ from hop (lv (fi q)) hlq) hsa hst (fun x hx => by have y := (hfq.2.2.2 _ hix).2.2.2 x hx; rw [heq, pm_one hlq gP] at y; exact y)) (fun Q34 q34 => ?_)
            obtain ⟨u34, r34, z34, hbz2, ho2, hc2, hd2⟩ := q34
            have ht34 : ur m C H Q34 := ht27.trans r34
            obtain ⟨V34, d34⟩ : ∃ V, ud m Q34 = V := ⟨_, rfl⟩
            rw [d34] at z34 hbz2 ho2 hc2 hd2
            have qf34 : uq F275 U V34 := qf27.tr z34 rfl
            refine mw_go mu_g275 (k := 1) (f1 := (223, [(6, .inl ((nI q) + 1)), (8, .inl (nI (oid (fi q) (ixz (nm (fi q)) f (dgz f P s) P)))), (7, .inl (nI (fi q))), (0, .inr (.inr (some 129))), (3, .inl (nI (cmz nb bo 0 nf))), (4, .inl (((U.1 27).2 b 0) - (nI (cmz nb bo 0 nf)))), (5, .inl (nI mn))], [], Q34)) (C := []) rfl trivial ?_
            rw [(show ((nI q) + 1) = (nI (q + 1)) from (nI_add q 1))]
            refine mw_go mu_g275 (k := 1) (f1 := (102, [(6, .inl (nI (q + 1))), (8, .inl (nI (oid (fi q) (ixz (nm (fi q)) f (dgz f P s) P)))), (7, .inl (nI (fi q))), (0, .inr (.inr (some 129))), (3, .inl (nI (cmz nb bo 0 nf))), (4, .inl (((U.1 27).2 b 0) - (nI (cmz nb bo 0 nf)))), (5, .inl (nI mn))], [], Q34)) (C := []) rfl trivial ?_
            exact mw_sub (by simp) (ihb (q + 1, Q34) ⟨u34, ht34, (show uq F275b Va (ud m Q34) from by rw [d34]; exact ((zzb.T (fun q hq => by first | exact ax_ne (in1_ne rfl hq) | exact ap_ne (in1_ne rfl hq) | exact fu_ne _ _ (in1_ne rfl hq))).tr z34 rfl)), (show (q + 1) ≤ mn from (by omega)), (show OUT U (ud m Q34) fi (q + 1) (fun r => oid r (ixz (nm r) f (dgz f P s) P)) from by rw [d34]; exact (hout2.eq (z34.t 24 rfl))), (show ∀ k, k < P → OPT (ud m Q34) (sm f 0 k) (f k) k (SNG tm lv S (fun r => oid r (ixz (nm r) f (dgz f P s) P)) fi (q + 1) k) from by rw [d34]; exact (fun j hj => by by_cases e1 : j = lv (fi q); (rw [e1]; exact ho2.congr (fun x _ => ⟨fun y r hr h1 h2 => by by_cases e0 : r = q; (rw [e0]; exact y.2); exact y.1 r (by omega) h1 h2, fun y => ⟨fun r hr h1 h2 => y r (by omega) h1 h2, y q (by omega) rfl heq⟩⟩)); (refine OPT.congr (A := SNG tm lv S (fun r => oid r (ixz (nm r) f (dgz f P s) P)) fi q j) (OPT.other (show OPT (upT Vb (ax 24 Vb.1 (nI (fi q)) 3 (nI (oid (fi q) (ixz (nm (fi q)) f (dgz f P s) P))))) (sm f 0 j) (f j) j _ from hop j hj) (hc2 j e1) (fun x h1 h2 => hd2 x (by have y1 := sm_seg (f := f) (k := j) (P := lv (fi q)); have y2 := sm_seg (f := f) (k := lv (fi q)) (P := j); omega))) (fun x _ => ⟨fun y r hr h1 h2 => by by_cases e0 : r = q; (rw [e0] at h1; exact absurd h1.symm e1); exact y r (by omega) h1 h2, fun y r hr h1 h2 => y r (by omega) h1 h2⟩)))), (show ∃ bf' bt', BZ (ud m Q34) bf' bt' from by rw [d34]; exact hbz2)⟩ (by show mn - (q + 1) < mn - q; omega))
    · -- 226: not (nI q) < (nI mn)
      have nh11 : ¬ q < mn := fun z => h11 (show nI q < nI mn from (nI_ltI (by omega) (by omega)).mpr z)
      refine mw_go mu_g275 (k := 1) (f1 := (227, [(6, .inl (nI q)), (0, .inr (.inr (some 129))), (3, .inl (nI (cmz nb bo 0 nf))), (4, .inl (((U.1 27).2 b 0) - (nI (cmz nb bo 0 nf)))), (5, .inl (nI mn))], [.inl (1 : Int32)], Hsb)) (C := []) rfl trivial ?_
      have hbzE : ∃ bf' bt', BZ Vb bf' bt' := hbz
      have hqe : q = mn := by omega
      rw [hqe] at hout hop
      exact mw_of (fun _ => mu_ret rfl (Or.inr rfl) ⟨(1 : Int32), Hsb, rfl, ub, htb, (by rw [db]; exact qfb), (by rw [db]; exact ((zzb.i 129 21 rfl).trans (zza.i 129 21 rfl))), (by rw [db]; exact ((zzb.i 129 11 rfl).trans (zza.i 129 11 rfl))), (by rw [db]; exact hbzE), Or.inr ⟨rfl, (by rw [db]; exact fun j hj => (congrArg (fun y => y.2 j) (zzb.a 129 16 rfl)).trans (hdg j hj)), (by rw [db]; exact hop), (by rw [db]; exact hout), (by rw [db]; unfold PSD; rw [show Vb.1 22 = Va.1 22 from zzb.t 22 rfl]; exact hps)⟩⟩)
theorem fk_pd (hk : k < P) (hP : P ≤ 14) (hf : ∀ k, 1 ≤ f k) : f k ≤ pd f 0 P := by
  have z := (pm_le (mk := (1 : Int32) <<< (nI k &&& 31)) (f := f) (n := P) (fun k _ => hf k)).2
  rw [pm_one hk hP] at z
  exact z
end Pose
