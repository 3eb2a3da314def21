/-! RELATION: a STATE is posed -/
section Pose
variable {H : mu_H} {U V : Ud} {m d P n k j q N us nf s bf bt : Nat} {C : Nat → Nat} {f dg bs lv : Nat → Nat} {nm tm : Nat → Int32} {oid : Nat → Nat → Nat} {S : Nat → Nat → Bool} {z : Nat → Nat} {p : Nat → Bool} {mk : Int32}
/-- the factors: masks, tables, what stands in them -/
def FAC (V : Ud) (P : Nat) (f : Nat → Nat) (nf : Nat) (nm tm : Nat → Int32) (bs lv : Nat → Nat) (oid : Nat → Nat → Nat) (N : Nat) (S : Nat → Nat → Bool) (p : Nat → Bool) : Prop := ((V.1 24).1 = nf ∧ nf ≤ 67108864 ∧ (V.2.2.1 129 4).1 ≤ 67108864) ∧ ∀ q, q < nf → ((V.1 24).2 q 0 = nm q ∧ (V.1 24).2 q 1 = tm q ∧ (V.1 24).2 q 2 = nI (bs q) ∧ (V.1 24).2 q 4 = nI (lv q)) ∧ lv q < P ∧ bs q + pm (nm q) f P ≤ (V.2.2.1 129 4).1 ∧ ∀ c, c < pm (nm q) f P → (V.2.2.1 129 4).2 (bs q + c) = nI (oid q c) ∧ oid q c < N ∧ p (oid q c) = true ∧ ∀ x, S (oid q c) x = true → x < pm (tm q) f P
/-- the digit of a STATE at a place -/
def dgz (f : Nat → Nat) (P s k : Nat) : Nat := s / pd f (k + 1) (P - 1 - k) % f k
theorem ixz_lt (h : ∀ k, k < n → dg k < f k) : ixz mk f dg n < pm mk f n := by
  induction n with
  | zero => exact Nat.one_pos
  | succ n ih =>
    have i1 := ih (fun k hk => h k (by omega))
    have i2 := h n (by omega)
    show (if mb mk n = 0 then ixz mk f dg n else ixz mk f dg n * f n + dg n) < pm mk f (n + 1)
    unfold pm
    by_cases e : mb mk n = 0
    · rw [if_pos e, if_pos e]
      omega
    · rw [if_neg e, if_neg e]
      have : (ixz mk f dg n + 1) * f n ≤ pm mk f n * f n := Nat.mul_le_mul_right _ i1
      rw [Nat.add_mul, Nat.one_mul] at this
      omega
theorem mb_one (hk : k < 32) (hj : j < 32) : (¬ mb ((1 : Int32) <<< (nI k &&& 31)) j = 0) ↔ j = k := by
  have h := mb_or 0 k j hk hj
  rw [Int32.or_comm, mb_or0] at h
  rw [h]
  constructor
  · rintro (a | a)
    · exact absurd ((show ∀ j : Fin 32, mb 0 j.1 = 0 by decide +kernel) ⟨j, hj⟩) a
    · exact a
  · exact Or.inr
theorem pm_one0 (hk : k < 32) : ∀ n, n ≤ k → pm ((1 : Int32) <<< (nI k &&& 31)) f n = 1
  | 0, _ => rfl
  | n + 1, h => by
    have ih := pm_one0 hk n (by omega)
    have e : mb ((1 : Int32) <<< (nI k &&& 31)) n = 0 := Decidable.byContradiction (fun y => by have := (mb_one hk (by omega)).mp y; omega)
    unfold pm
    rw [ih, if_pos e]
theorem pm_one (hk : k < P) (hP : P ≤ 14) : pm ((1 : Int32) <<< (nI k &&& 31)) f P = f k := by
  have key : ∀ n, k < n → n ≤ P → pm ((1 : Int32) <<< (nI k &&& 31)) f n = f k := by
    intro n
    induction n with
    | zero => exact fun h => absurd h (Nat.not_lt_zero _)
    | succ n ih =>
      intro h1 h2
      unfold pm
      by_cases e : n = k
      · rw [pm_one0 (by omega) n (by omega), if_neg ((mb_one (by omega) (by omega)).mpr e), e, Nat.one_mul]
      · have e0 : mb ((1 : Int32) <<< (nI k &&& 31)) n = 0 := Decidable.byContradiction (fun y => e ((mb_one (by omega) (by omega)).mp y))
        rw [ih (by omega) (by omega), if_pos e0, Nat.mul_one]
  exact key P hk (Nat.le_refl _)
/-- what is held on the sides of now -/
def PSD (U V : Ud) (k : Nat) (f dg : Nat → Nat) : Prop := (V.1 22).1 = (U.1 22).1 ∧ (∀ r c, ¬ (r < k ∧ c = 2) → (V.1 22).2 r c = (U.1 22).2 r c) ∧ ∀ r, r < k → (V.1 22).2 r 2 = (U.2.2.1 99 8).2 (sm f 0 r + dg r)
theorem PSD.step {x : Int32} (h : PSD U V k f dg) (h28 : (U.1 22).1 = 28) (hk : k < 28) (hx : x = (U.2.2.1 99 8).2 (sm f 0 k + dg k)) : PSD U (upT V (ax 22 V.1 (nI k) 2 x)) (k + 1) f dg := by
  obtain ⟨h1, h2, h3⟩ := h
  have e : (upT V (ax 22 V.1 (nI k) 2 x)).1 22 = ((V.1 22).1, fun a b => if a = k ∧ b = 2 then x else (V.1 22).2 a b) := by
    show (fu V.1 22 (tset (wa 22) (V.1 22) (nI k) 2 x)) 22 = _
    rw [fu_at]
    unfold tset
    rw [if_neg (nI_pos (by omega)), nI_clamp (by omega), if_pos ⟨by omega, by decide⟩]
  unfold PSD
  rw [e]
  refine ⟨h1, fun r c hr => ?_, fun r hr => ?_⟩
  · show (if r = k ∧ c = 2 then x else (V.1 22).2 r c) = _
    rw [if_neg (fun y => hr ⟨by omega, y.2⟩)]
    exact h2 r c (fun y => hr ⟨by omega, y.2⟩)
  · show (if r = k ∧ 2 = 2 then x else (V.1 22).2 r 2) = _
    by_cases e0 : r = k
    · rw [if_pos ⟨e0, rfl⟩, e0, hx]
    · rw [if_neg (fun y => e0 y.1)]
      exact h3 r (by omega)
/-- outcomes that have been noted -/
def OUT (U V : Ud) (q : Nat) (oc : Nat → Nat) : Prop := (V.1 24).1 = (U.1 24).1 ∧ (∀ r c, ¬ (r < q ∧ c = 3) → (V.1 24).2 r c = (U.1 24).2 r c) ∧ ∀ r, r < q → (V.1 24).2 r 3 = nI (oc r)
theorem OUT.step {oc : Nat → Nat} (h : OUT U V q oc) (hq : q < (U.1 24).1) (hb : (U.1 24).1 ≤ 67108864) : OUT U (upT V (ax 24 V.1 (nI q) 3 (nI (oc q)))) (q + 1) oc := by
  obtain ⟨h1, h2, h3⟩ := h
  have e : (upT V (ax 24 V.1 (nI q) 3 (nI (oc q)))).1 24 = ((V.1 24).1, fun a b => if a = q ∧ b = 3 then nI (oc q) else (V.1 24).2 a b) := by
    show (fu V.1 24 (tset (wa 24) (V.1 24) (nI q) 3 (nI (oc q)))) 24 = _
    rw [fu_at]
    unfold tset
    rw [if_neg (nI_pos (by omega)), nI_clamp (by omega), if_pos ⟨by omega, by decide⟩]
  unfold OUT
  rw [e]
  refine ⟨h1, fun r c hr => ?_, fun r hr => ?_⟩
  · show (if r = q ∧ c = 3 then nI (oc q) else (V.1 24).2 r c) = _
    rw [if_neg (fun y => hr ⟨by omega, y.2⟩)]
    exact h2 r c (fun y => hr ⟨by omega, y.2⟩)
  · show (if r = q ∧ 3 = 3 then nI (oc q) else (V.1 24).2 r 3) = _
    by_cases e0 : r = q
    · rw [if_pos ⟨e0, rfl⟩, e0]
    · rw [if_neg (fun y => e0 y.1)]
      exact h3 r (by omega)
theorem OUT.eq {X : Ud} {oc : Nat → Nat} (h : OUT U V q oc) (e : X.1 24 = V.1 24) : OUT U X q oc := by
  unfold OUT at h ⊢
  rw [e]
  exact h
/-- what the tables of one VARIABLE leave, behind q of them -/
def SNG (nm tm : Nat → Int32) (lv : Nat → Nat) (S : Nat → Nat → Bool) (oc : Nat → Nat) (q k x : Nat) : Prop := ∀ r, r < q → lv r = k → tm r = ((1 : Int32) <<< (nI k &&& 31)) → S (oc r) x = true
def F275 : Uf := ⟨[22, 24], [(129, 19), (129, 20)], [(129, 16), (129, 13), (129, 12)], [], [146], false⟩
theorem dgz_max (hf : ∀ k, 1 ≤ f k) : nI (s / max 1 (pd f (k + 1) (P - 1 - k)) % max 1 (f k)) = nI (dgz f P s k) := by
  have h1 := hf k
  have h2 : 1 ≤ pd f (k + 1) (P - 1 - k) := pd_pos (fun k _ _ => hf k)
  unfold dgz
  rw [Nat.max_eq_right h1, Nat.max_eq_right h2]
theorem dgz_lt (hf : ∀ k, 1 ≤ f k) : dgz f P s k < f k := Nat.mod_lt _ (hf k)
def F275a : Uf := ⟨[22], [], [(129, 16), (129, 13)], [], [], false⟩
def F275b : Uf := ⟨[24], [(129, 19), (129, 20)], [(129, 12), (129, 13)], [], [146], false⟩
/-- PathProver$Relation.pose(I)V -/
abbrev mu_m275 : ev_M := (5, none, [], ev_b275)
theorem mu_g275 : mu_good mu_m275 := mu_goodk ev_k275
theorem rl_pose (h : um m H) (e : ud m H = U) (hS : spx m U P f) (hf1 : ∀ k, 1 ≤ f k) (hs : s < pd f 0 P) (h28 : (U.1 22).1 = 28) (hz : BZ U bf bt) (hl12 : sm f 0 P ≤ (U.2.2.1 129 12).1) (hl12b : (U.2.2.1 129 12).1 < 2147483648) (hSK : SOK U N us S z p) (hFA : FAC U P f nf nm tm bs lv oid N S p) : mu_TV (mu_D (d + 6)) 275 [.inr (.inr (some 129)), .inl (nI s)] H (fun H1 => um m H1 ∧ ur m C H H1 ∧ uq F275 U (ud m H1) ∧ (∀ j, j < P → ((ud m H1).2.2.1 129 16).2 j = nI (dgz f P s j)) ∧ (∀ k, k < P → OPT (ud m H1) (sm f 0 k) (f k) k (SNG nm tm lv S (fun r => oid r (ixz (nm r) f (dgz f P s) P)) nf k)) ∧ OUT U (ud m H1) nf (fun r => oid r (ixz (nm r) f (dgz f P s) P)) ∧ PSD U (ud m H1) P f (dgz f P s) ∧ ∃ bf' bt', BZ (ud m H1) bf' bt') := by
  obtain ⟨⟨s4, s10, s11, s12⟩, hk5, ⟨g8, g8b, g18, g18b⟩, ⟨gP, gpd, gsm⟩, hsp, hmo⟩ := (show spx m U P f from hS)
  have hnb0 := hFA.1
  refine mu_meth (M := mu_m275) rfl rfl ?_
  refine mw_ht (mu_fn_of (show [0, 1].Nodup by decide)) ?_
  refine mw_go mu_g275 (k := 2) (f1 := (2, [(2, .inl (0 : Int32)), (0, .inr (.inr (some 129))), (1, .inl (nI s))], [], H)) (C := []) rfl trivial ?_
  show mu_W _ _ (2, [(2, .inl (nI 0)), (0, .inr (.inr (some 129))), (1, .inl (nI s))], [], H) _
  refine mw_sub (L' := [(2, .inl (nI 0)), (0, .inr (.inr (some 129))), (1, .inl (nI s))]) (by simp) ?_
  refine mw_down (α := Nat × mu_H) (fun zs => (2, [(2, .inl (nI zs.1)), (0, .inr (.inr (some 129))), (1, .inl (nI s))], [], zs.2)) (fun zs => P - zs.1) (fun zs => um m zs.2 ∧ ur m C H zs.2 ∧ (uq F275a U (ud m zs.2)) ∧ (zs.1 ≤ P) ∧ (∀ j, j < zs.1 → ((ud m zs.2).2.2.1 129 16).2 j = nI (dgz f P s j)) ∧ (∀ j, j < zs.1 → ((ud m zs.2).2.2.1 129 13).2 j = -1) ∧ (PSD U (ud m zs.2) zs.1 f (dgz f P s))) (fun zs hza iha => ?_) (0, H) ⟨h, (ur.refl m C H), (show uq F275a U (ud m H) from by rw [e]; exact uq.refl _ _), (show 0 ≤ P from (by omega)), (show ∀ j, j < 0 → ((ud m H).2.2.1 129 16).2 j = nI (dgz f P s j) from by rw [e]; exact (fun j hj => absurd hj (Nat.not_lt_zero _))), (show ∀ j, j < 0 → ((ud m H).2.2.1 129 13).2 j = -1 from by rw [e]; exact (fun j hj => absurd hj (Nat.not_lt_zero _))), (show PSD U (ud m H) 0 f (dgz f P s) from by rw [e]; exact ⟨rfl, fun _ _ _ => rfl, fun r hr => absurd hr (Nat.not_lt_zero _)⟩)⟩
  obtain ⟨k, Hsa⟩ := zs
  obtain ⟨ua, hta, da, hk, hdg, hoc, hps⟩ := hza
  have ua : um m Hsa := ua
  have hta : ur m C H Hsa := hta
  have zza : uq F275a U (ud m Hsa) := da
  have hk : k ≤ P := hk
  have hdg : ∀ j, j < k → ((ud m Hsa).2.2.1 129 16).2 j = nI (dgz f P s j) := hdg
  have hoc : ∀ j, j < k → ((ud m Hsa).2.2.1 129 13).2 j = -1 := hoc
  have hps : PSD U (ud m Hsa) k f (dgz f P s) := hps
  obtain ⟨Va, da⟩ : ∃ V, ud m Hsa = V := ⟨_, rfl⟩
  rw [da] at zza hdg hoc hps
  have qfa : uq F275 U Va := (uq.refl F275 U).tr zza rfl
  show mu_W _ _ (2, [(2, .inl (nI k)), (0, .inr (.inr (some 129))), (1, .inl (nI s))], [], Hsa) _
  refine mw_go mu_g275 (k := 3) (f1 := (7, [(2, .inl (nI k)), (0, .inr (.inr (some 129))), (1, .inl (nI s))], [.inr (.inr (mu_r Hsa 129 0)), .inl (nI k)], Hsa)) (C := [mu_is Hsa (some 129) 9]) rfl (show mu_is Hsa (some 129) 9 from (ua.1.1.is rfl)) ?_
  rw [(ua.1.1.r (p := 129) (j := 0) (q := 99) rfl)]
  refine mw_go mu_g275 (k := 1) (f1 := (10, [(2, .inl (nI k)), (0, .inr (.inr (some 129))), (1, .inl (nI s))], [.inl (mu_i Hsa 99 4), .inl (nI k)], Hsa)) (C := [mu_is Hsa (some 99) 13]) rfl (show mu_is Hsa (some 99) 13 from (ua.1.1.is rfl)) ?_
  rw [(show mu_i Hsa 99 4 = (nI P) from (ud_i (U := Va) (m := m) (P := 99) (j := 4) da rfl).trans ((zza.i 99 4 rfl).trans s4))]
  refine mw_if (P := (nI k) < (nI P)) (a := 13) (b := 58) (fun _ => rfl) trivial (fun h1 => ?_) (fun h1 => ?_)
  · -- 13: (nI k) < (nI P)
    have nh1 : k < P := (nI_ltI (by omega) (by omega)).mp (show nI k < nI P from h1)
    refine mw_go mu_g275 (k := 2) (f1 := (17, [(2, .inl (nI k)), (0, .inr (.inr (some 129))), (1, .inl (nI s))], [.inr (.inr (mu_r Hsa 129 16))], Hsa)) (C := [mu_is Hsa (some 129) 9]) rfl (show mu_is Hsa (some 129) 9 from (ua.1.1.is rfl)) ?_
    rw [(ua.1.1.r (p := 129) (j := 16) (q := 144) rfl)]
    refine mw_go mu_g275 (k := 3) (f1 := (22, [(2, .inl (nI k)), (0, .inr (.inr (some 129))), (1, .inl (nI s))], [.inr (.inr (mu_r Hsa 129 0)), .inl (nI k), .inr (.inr (some 144))], Hsa)) (C := [mu_is Hsa (some 129) 9]) rfl (show mu_is Hsa (some 129) 9 from (ua.1.1.is rfl)) ?_
    rw [(ua.1.1.r (p := 129) (j := 0) (q := 99) rfl)]
    refine mw_go mu_g275 (k := 2) (f1 := (24, [(2, .inl (nI k)), (0, .inr (.inr (some 129))), (1, .inl (nI s))], [.inl (nI k), .inl (nI s), .inr (.inr (some 99)), .inl (nI k), .inr (.inr (some 144))], Hsa)) (C := []) rfl trivial ?_
    refine mw_cIe (fun _ => rfl) (show mu_is Hsa (some 99) 13 from (ua.1.1.is rfl)) (sp_digit (d := (d + 3)) ua da (spx_keep hS (show (Va.2.1 99 4) = (U.2.1 99 4) from (zza.i 99 4 rfl)) (show (Va.2.1 99 10) = (U.2.1 99 10) from (zza.i 99 10 rfl)) (show (Va.2.1 99 11) = (U.2.1 99 11) from (zza.i 99 11 rfl)) (show (Va.2.1 99 12) = (U.2.1 99 12) from (zza.i 99 12 rfl)) (show (Va.2.2.1 99 5) = (U.2.2.1 99 5) from (zza.a 99 5 rfl)) (show (Va.2.2.1 99 7) = (U.2.2.1 99 7) from (zza.a 99 7 rfl)) (show (Va.2.2.1 99 6) = (U.2.2.1 99 6) from (zza.a 99 6 rfl)) (show (Va.2.2.1 99 8).1 = (U.2.2.1 99 8).1 from (zza.n 99 8 rfl)) (show (Va.2.2.1 99 18).1 = (U.2.2.1 99 18).1 from (zza.n 99 18 rfl)) (show (Va.2.2.2.1 100 0) = (U.2.2.2.1 100 0) from (zza.r 100 0 rfl)) (show (Va.2.2.2.1 99 0) = (U.2.2.2.1 99 0) from (zza.r 99 0 rfl))) (by omega) (by omega)) ?_
    have hdk := dgz_max (s := s) hf1 (k := k) (P := P)
    rw [hdk]
    have hdl := dgz_lt (s := s) (P := P) (k := k) hf1
    refine mw_go mu_g275 (k := 1) (f1 := (28, [(2, .inl (nI k)), (0, .inr (.inr (some 129))), (1, .inl (nI s))], [], (mu_si Hsa 144 (nI k).toNatClampNeg (nI (dgz f P s k))))) (C := [mu_is Hsa (some 144) 100, vp_in (nI k) (mu_n Hsa 144)]) rfl (show (mu_is Hsa (some 144) 100) ∧ (vp_in (nI k) (mu_n Hsa 144)) from ⟨(ua.iA da rfl rfl ((ud_q (m := m) (P := 129) (j := 16) da rfl).symm.trans (ua.1.1.r (p := 129) (j := 16) (q := 144) rfl))), (by rw [show mu_n Hsa 144 = 14 from (ua.1.1.a (p := 144) (x := (100, 14)) rfl).2]; exact vp_in_nI (n := k) (by omega) (by decide))⟩) ?_
    rw [(show (nI k).toNatClampNeg = k from nI_clamp (by omega))]
    obtain ⟨u3, r3, d3⟩ : um m (mu_si Hsa 144 k (nI (dgz f P s k))) ∧ ur m C Hsa (mu_si Hsa 144 k (nI (dgz f P s k))) ∧ ud m (mu_si Hsa 144 k (nI (dgz f P s k))) = (upA Va 129 16 k (nI (dgz f P s k))) := ua.sA (C := C) da rfl rfl ((ud_q (m := m) (P := 129) (j := 16) da rfl).symm.trans (ua.1.1.r (p := 129) (j := 16) (q := 144) rfl))
    generalize (mu_si Hsa 144 k (nI (dgz f P s k))) = Q3 at u3 r3 d3 ⊢
    have qf3 : uq F275 U (upA Va 129 16 k (nI (dgz f P s k))) := qfa.A rfl
    have ht3 : ur m C H Q3 := hta.trans r3
    refine mw_go mu_g275 (k := 2) (f1 := (32, [(2, .inl (nI k)), (0, .inr (.inr (some 129))), (1, .inl (nI s))], [.inr (.inr (mu_r Q3 129 13))], Q3)) (C := [mu_is Q3 (some 129) 9]) rfl (show mu_is Q3 (some 129) 9 from (u3.1.1.is rfl)) ?_
    rw [(u3.1.1.r (p := 129) (j := 13) (q := 141) rfl)]
    refine mw_go mu_g275 (k := 3) (f1 := (35, [(2, .inl (nI k)), (0, .inr (.inr (some 129))), (1, .inl (nI s))], [], (mu_si Q3 141 (nI k).toNatClampNeg (-1 : Int32)))) (C := [mu_is Q3 (some 141) 100, vp_in (nI k) (mu_n Q3 141)]) rfl (show (mu_is Q3 (some 141) 100) ∧ (vp_in (nI k) (mu_n Q3 141)) from ⟨(u3.iA d3 rfl rfl ((ud_q (m := m) (P := 129) (j := 13) d3 rfl).symm.trans (u3.1.1.r (p := 129) (j := 13) (q := 141) rfl))), (by rw [show mu_n Q3 141 = 14 from (u3.1.1.a (p := 141) (x := (100, 14)) rfl).2]; exact vp_in_nI (n := k) (by omega) (by decide))⟩) ?_
    rw [(show (nI k).toNatClampNeg = k from nI_clamp (by omega))]
    obtain ⟨u4, r4, d4⟩ : um m (mu_si Q3 141 k (-1 : Int32)) ∧ ur m C Q3 (mu_si Q3 141 k (-1 : Int32)) ∧ ud m (mu_si Q3 141 k (-1 : Int32)) = (upA (upA Va 129 16 k (nI (dgz f P s k))) 129 13 k (-1 : Int32)) := u3.sA (C := C) d3 rfl rfl ((ud_q (m := m) (P := 129) (j := 13) d3 rfl).symm.trans (u3.1.1.r (p := 129) (j := 13) (q := 141) rfl))
    generalize (mu_si Q3 141 k (-1 : Int32)) = Q4 at u4 r4 d4 ⊢
    have qf4 : uq F275 U (upA (upA Va 129 16 k (nI (dgz f P s k))) 129 13 k (-1 : Int32)) := qf3.A rfl
    have ht4 : ur m C H Q4 := ht3.trans r4
    refine mw_go mu_g275 (k := 2) (f1 := (39, [(2, .inl (nI k)), (0, .inr (.inr (some 129))), (1, .inl (nI s))], [.inr (.inr (mu_r Q4 129 0))], Q4)) (C := [mu_is Q4 (some 129) 9]) rfl (show mu_is Q4 (some 129) 9 from (u4.1.1.is rfl)) ?_
    rw [(u4.1.1.r (p := 129) (j := 0) (q := 99) rfl)]
    refine mw_go mu_g275 (k := 1) (f1 := (42, [(2, .inl (nI k)), (0, .inr (.inr (some 129))), (1, .inl (nI s))], [.inr (.inr (mu_r Q4 99 1))], Q4)) (C := [mu_is Q4 (some 99) 13]) rfl (show mu_is Q4 (some 99) 13 from (u4.1.1.is rfl)) ?_
    rw [(u4.1.1.r (p := 99) (j := 1) (q := 100) rfl)]
    refine mw_go mu_g275 (k := 3) (f1 := (47, [(2, .inl (nI k)), (0, .inr (.inr (some 129))), (1, .inl (nI s))], [.inr (.inr (mu_r Q4 129 16)), .inl (nI k), .inr (.inr (some 100))], Q4)) (C := [mu_is Q4 (some 129) 9]) rfl (show mu_is Q4 (some 129) 9 from (u4.1.1.is rfl)) ?_
    rw [(u4.1.1.r (p := 129) (j := 16) (q := 144) rfl)]
    refine mw_go mu_g275 (k := 2) (f1 := (49, [(2, .inl (nI k)), (0, .inr (.inr (some 129))), (1, .inl (nI s))], [.inl (mu_i Q4 144 (nI k).toNatClampNeg), .inl (nI k), .inr (.inr (some 100))], Q4)) (C := [mu_isr Q4 (some 144) 100, vp_in (nI k) (mu_n Q4 144)]) rfl (show (mu_isr Q4 (some 144) 100) ∧ (vp_in (nI k) (mu_n Q4 144)) from ⟨((u4.iA d4 rfl rfl ((ud_q (m := m) (P := 129) (j := 16) d4 rfl).symm.trans (u4.1.1.r (p := 129) (j := 16) (q := 144) rfl)))).r, (by rw [show mu_n Q4 144 = 14 from (u4.1.1.a (p := 144) (x := (100, 14)) rfl).2]; exact vp_in_nI (n := k) (by omega) (by decide))⟩) ?_
    rw [(show (mu_i Q4 144 (nI k).toNatClampNeg) = (nI (dgz f P s k)) from ((congrArg (mu_i Q4 144) (show (nI k).toNatClampNeg = k from nI_clamp (by omega))).trans (u4.gA d4 rfl rfl ((ud_q (m := m) (P := 129) (j := 16) d4 rfl).symm.trans (u4.1.1.r (p := 129) (j := 16) (q := 144) rfl)))).trans ((congrArg (fun z => z.2 k) (show (upA (upA Va 129 16 k (nI (dgz f P s k))) 129 13 k (-1 : Int32)).2.2.1 129 16 = ((upA (upA Va 129 16 k (nI (dgz f P s k))) 129 13 k (-1 : Int32)).2.2.1 129 16) from rfl)).trans (if_pos rfl)))]
    refine mw_cV (fun _ => rfl) (show mu_is Q4 (some 100) 5 from (u4.1.1.is rfl)) (mc_pose (d := (d + 3)) (C := C) (k := k) (n := dgz f P s k) u4 d4 (spx_keep hS (show ((upA (upA Va 129 16 k (nI (dgz f P s k))) 129 13 k (-1 : Int32)).2.1 99 4) = (U.2.1 99 4) from (zza.i 99 4 rfl)) (show ((upA (upA Va 129 16 k (nI (dgz f P s k))) 129 13 k (-1 : Int32)).2.1 99 10) = (U.2.1 99 10) from (zza.i 99 10 rfl)) (show ((upA (upA Va 129 16 k (nI (dgz f P s k))) 129 13 k (-1 : Int32)).2.1 99 11) = (U.2.1 99 11) from (zza.i 99 11 rfl)) (show ((upA (upA Va 129 16 k (nI (dgz f P s k))) 129 13 k (-1 : Int32)).2.1 99 12) = (U.2.1 99 12) from (zza.i 99 12 rfl)) (show ((upA (upA Va 129 16 k (nI (dgz f P s k))) 129 13 k (-1 : Int32)).2.2.1 99 5) = (U.2.2.1 99 5) from (zza.a 99 5 rfl)) (show ((upA (upA Va 129 16 k (nI (dgz f P s k))) 129 13 k (-1 : Int32)).2.2.1 99 7) = (U.2.2.1 99 7) from (zza.a 99 7 rfl)) (show ((upA (upA Va 129 16 k (nI (dgz f P s k))) 129 13 k (-1 : Int32)).2.2.1 99 6) = (U.2.2.1 99 6) from (zza.a 99 6 rfl)) (show ((upA (upA Va 129 16 k (nI (dgz f P s k))) 129 13 k (-1 : Int32)).2.2.1 99 8).1 = (U.2.2.1 99 8).1 from (zza.n 99 8 rfl)) (show ((upA (upA Va 129 16 k (nI (dgz f P s k))) 129 13 k (-1 : Int32)).2.2.1 99 18).1 = (U.2.2.1 99 18).1 from (zza.n 99 18 rfl)) (show ((upA (upA Va 129 16 k (nI (dgz f P s k))) 129 13 k (-1 : Int32)).2.2.2.1 100 0) = (U.2.2.2.1 100 0) from (zza.r 100 0 rfl)) (show ((upA (upA Va 129 16 k (nI (dgz f P s k))) 129 13 k (-1 : Int32)).2.2.2.1 99 0) = (U.2.2.2.1 99 0) from (zza.r 99 0 rfl))) (by omega) (by omega) (by rw [show k % 14 = k by omega]; exact hdl)) (fun Q5 q5 => ?_)
    obtain ⟨u5, r5, d5⟩ := q5
    have ht5 : ur m C H Q5 := ht4.trans r5
    have qf5 : uq F275 U (upT (upA (upA Va 129 16 k (nI (dgz f P s k))) 129 13 k (-1 : Int32)) (ax 22 (upA (upA Va 129 16 k (nI (dgz f P s k))) 129 13 k (-1 : Int32)).1 (nI k) 2 (((upA (upA Va 129 16 k (nI (dgz f P s k))) 129 13 k (-1 : Int32)).2.2.1 99 8).2 (sm f 0 (k % 14) + dgz f P s k)))) := qf4.ax rfl
    refine mw_go mu_g275 (k := 1) (f1 := (55, [(2, .inl ((nI k) + 1)), (0, .inr (.inr (some 129))), (1, .inl (nI s))], [], Q5)) (C := []) rfl trivial ?_
    rw [(show ((nI k) + 1) = (nI (k + 1)) from (nI_add k 1))]
    refine mw_go mu_g275 (k := 1) (f1 := (2, [(2, .inl (nI (k + 1))), (0, .inr (.inr (some 129))), (1, .inl (nI s))], [], Q5)) (C := []) rfl trivial ?_
    exact mw_sub (by simp) (iha (k + 1, Q5) ⟨u5, ht5, (show uq F275a U (ud m Q5) from by rw [d5]; exact (((zza.A rfl).A rfl).T (fun q hq => by first | exact ax_ne (in1_ne rfl hq) | exact ap_ne (in1_ne rfl hq) | exact fu_ne _ _ (in1_ne rfl hq)))), (show (k + 1) ≤ P from (by omega)), (show ∀ j, j < (k + 1) → ((ud m Q5).2.2.1 129 16).2 j = nI (dgz f P s j) from by rw [d5]; exact (fun j hj => (by show (if j = k then nI (dgz f P s k) else (Va.2.2.1 129 16).2 j) = _; by_cases e0 : j = k; (rw [if_pos e0, e0]); (rw [if_neg e0]; exact hdg j (by omega))))), (show ∀ j, j < (k + 1) → ((ud m Q5).2.2.1 129 13).2 j = -1 from by rw [d5]; exact (fun j hj => (by show (if j = k then (-1 : Int32) else (Va.2.2.1 129 13).2 j) = -1; by_cases e0 : j = k; (rw [if_pos e0]); (rw [if_neg e0]; exact hoc j (by omega))))), (show PSD U (ud m Q5) (k + 1) f (dgz f P s) from by rw [d5]; exact (PSD.step (V := (upA (upA Va 129 16 k (nI (dgz f P s k))) 129 13 k (-1 : Int32))) (show PSD U (upA (upA Va 129 16 k (nI (dgz f P s k))) 129 13 k (-1 : Int32)) k f (dgz f P s) from hps) h28 (by omega) (by rw [show k % 14 = k by omega, show ((upA (upA Va 129 16 k (nI (dgz f P s k))) 129 13 k (-1 : Int32)).2.2.1 99 8) = U.2.2.1 99 8 from zza.a 99 8 rfl])))⟩ (by show P - (k + 1) < P - k; omega))
  · -- 58: not (nI k) < (nI P)
    have nh1 : ¬ k < P := fun z => h1 (show nI k < nI P from (nI_ltI (by omega) (by omega)).mpr z)
    have hke : k = P := by omega
    rw [hke] at hdg hps hoc
    refine mw_go mu_g275 (k := 2) (f1 := (60, [(2, .inl (0 : Int32)), (0, .inr (.inr (some 129))), (1, .inl (nI s))], [], Hsa)) (C := []) rfl trivial ?_
    show mu_W _ _ (60, [(2, .inl (nI 0)), (0, .inr (.inr (some 129))), (1, .inl (nI s))], [], Hsa) _
    refine mw_sub (L' := [(2, .inl (nI 0)), (0, .inr (.inr (some 129))), (1, .inl (nI s))]) (by simp) ?_
    refine mw_down (α := Nat × mu_H) (fun zs => (60, [(2, .inl (nI zs.1)), (0, .inr (.inr (some 129))), (1, .inl (nI s))], [], zs.2)) (fun zs => nf - zs.1) (fun zs => um m zs.2 ∧ ur m C H zs.2 ∧ (uq F275b Va (ud m zs.2)) ∧ (zs.1 ≤ nf) ∧ (OUT U (ud m zs.2) zs.1 (fun r => oid r (ixz (nm r) f (dgz f P s) P))) ∧ (∀ k, k < P → OPT (ud m zs.2) (sm f 0 k) (f k) k (SNG nm tm lv S (fun r => oid r (ixz (nm r) f (dgz f P s) P)) zs.1 k)) ∧ (∃ bf' bt', BZ (ud m zs.2) bf' bt')) (fun zs hzb ihb => ?_) (0, Hsa) ⟨ua, hta, (show uq F275b Va (ud m Hsa) from by rw [da]; exact uq.refl _ _), (show 0 ≤ nf from (by omega)), (show OUT U (ud m Hsa) 0 (fun r => oid r (ixz (nm r) f (dgz f P s) P)) from by rw [da]; exact ⟨congrArg Prod.fst (show Va.1 24 = U.1 24 from zza.t 24 rfl), fun r c _ => congrArg (fun y => y.2 r c) (show Va.1 24 = U.1 24 from zza.t 24 rfl), fun r hr => absurd hr (Nat.not_lt_zero _)⟩), (show ∀ k, k < P → OPT (ud m Hsa) (sm f 0 k) (f k) k (SNG nm tm lv S (fun r => oid r (ixz (nm r) f (dgz f P s) P)) 0 k) from by rw [da]; exact (fun j hj => Or.inl ⟨hoc j hj, fun x _ r hr => absurd hr (Nat.not_lt_zero _)⟩)), (show ∃ bf' bt', BZ (ud m Hsa) bf' bt' from by rw [da]; exact ⟨bf, bt, ⟨(zza.i 129 19 rfl).trans hz.1.1, (zza.i 129 20 rfl).trans hz.1.2.1, hz.1.2.2⟩, fun w hw hn => (by rw [show Va.2.2.2.2.1 146 = U.2.2.2.2.1 146 from zza.l 146 rfl]; exact hz.2 w hw hn)⟩)⟩
    obtain ⟨q, Hsb⟩ := zs
    obtain ⟨ub, htb, db, hq, hout, hop, hbz⟩ := hzb
    have ub : um m Hsb := ub
    have htb : ur m C H Hsb := htb
    have zzb : uq F275b Va (ud m Hsb) := db
    have hq : q ≤ nf := hq
    have hout : OUT U (ud m Hsb) q (fun r => oid r (ixz (nm r) f (dgz f P s) P)) := hout
    have hop : ∀ k, k < P → OPT (ud m Hsb) (sm f 0 k) (f k) k (SNG nm tm lv S (fun r => oid r (ixz (nm r) f (dgz f P s) P)) q k) := hop
    have hbz : ∃ bf' bt', BZ (ud m Hsb) bf' bt' := hbz
    obtain ⟨Vb, db⟩ : ∃ V, ud m Hsb = V := ⟨_, rfl⟩
    rw [db] at zzb hout hop hbz
    have qfb : uq F275 U Vb := qfa.tr zzb rfl
    show mu_W _ _ (60, [(2, .inl (nI q)), (0, .inr (.inr (some 129))), (1, .inl (nI s))], [], Hsb) _
    refine mw_go mu_g275 (k := 3) (f1 := (65, [(2, .inl (nI q)), (0, .inr (.inr (some 129))), (1, .inl (nI s))], [.inr (.inr (mu_r Hsb 129 1)), .inl (nI q)], Hsb)) (C := [mu_is Hsb (some 129) 9]) rfl (show mu_is Hsb (some 129) 9 from (ub.1.1.is rfl)) ?_
    rw [(ub.1.1.r (p := 129) (j := 1) (q := 130) rfl)]
    refine mw_go mu_g275 (k := 1) (f1 := (68, [(2, .inl (nI q)), (0, .inr (.inr (some 129))), (1, .inl (nI s))], [.inl (mu_i Hsb 130 2), .inl (nI q)], Hsb)) (C := [mu_is Hsb (some 130) 10]) rfl (show mu_is Hsb (some 130) 10 from (ub.1.1.is rfl)) ?_
    rw [(show mu_i Hsb 130 2 = (nI nf) from (ub.size db (j := 24) (by decide) rfl).trans (congrArg nI ((congrArg Prod.fst (show Vb.1 24 = (Vb.1 24) from rfl)).trans (show (Vb.1 24).1 = nf from hout.1.trans hFA.1.1))))]
    refine mw_if (P := (nI q) < (nI nf)) (a := 71) (b := 150) (fun _ => rfl) trivial (fun h6 => ?_) (fun h6 => ?_)
    · -- 71: (nI q) < (nI nf)
      have nh6 : q < nf := (nI_ltI (by omega) (by omega)).mp (show nI q < nI nf from h6)
      have hfq := hFA.2 q (by omega)
      have hlq := hfq.2.1
      have hnb := hFA.1
      refine mw_go mu_g275 (k := 2) (f1 := (75, [(2, .inl (nI q)), (0, .inr (.inr (some 129))), (1, .inl (nI s))], [.inr (.inr (mu_r Hsb 129 4))], Hsb)) (C := [mu_is Hsb (some 129) 9]) rfl (show mu_is Hsb (some 129) 9 from (ub.1.1.is rfl)) ?_
      rw [(show mu_r Hsb 129 4 = (U.2.2.2.1 129 4) from (ud_q (U := Vb) (m := m) (P := 129) (j := 4) db rfl).trans ((zzb.r 129 4 rfl).trans (zza.r 129 4 rfl)))]
      refine mw_go mu_g275 (k := 2) (f1 := (79, [(2, .inl (nI q)), (0, .inr (.inr (some 129))), (1, .inl (nI s))], [.inr (.inr (mu_r Hsb 129 1)), .inr (.inr (U.2.2.2.1 129 4))], Hsb)) (C := [mu_is Hsb (some 129) 9]) rfl (show mu_is Hsb (some 129) 9 from (ub.1.1.is rfl)) ?_
      rw [(ub.1.1.r (p := 129) (j := 1) (q := 130) rfl)]
      refine mw_go mu_g275 (k := 2) (f1 := (81, [(2, .inl (nI q)), (0, .inr (.inr (some 129))), (1, .inl (nI s))], [.inl (2 : Int32), .inl (nI q), .inr (.inr (some 130)), .inr (.inr (U.2.2.2.1 129 4))], Hsb)) (C := []) rfl trivial ?_
      refine mw_cIe (fun _ => rfl) (show mu_is Hsb (some 130) 10 from (ub.1.1.is rfl)) (ub.getr (d := (d + 4)) db (j := 24) (by decide) rfl (nI q) (c := 2) (by decide)) ?_
      rw [show (tget (Vb.1 24) (nI q) 2) = (nI (bs q)) from ((congrArg (fun z => tget z (nI q) 2) (show Vb.1 24 = (Vb.1 24) from rfl)).trans (tget_nI (by omega))).trans ((hout.2.1 q 2 (fun y => absurd y.1 (Nat.lt_irrefl _))).trans hfq.1.2.2.1)]
      refine mw_go mu_g275 (k := 3) (f1 := (89, [(2, .inl (nI q)), (0, .inr (.inr (some 129))), (1, .inl (nI s))], [.inr (.inr (mu_r Hsb 129 1)), .inr (.inr (some 129)), .inl (nI (bs q)), .inr (.inr (U.2.2.2.1 129 4))], Hsb)) (C := [mu_is Hsb (some 129) 9]) rfl (show mu_is Hsb (some 129) 9 from (ub.1.1.is rfl)) ?_
      rw [(ub.1.1.r (p := 129) (j := 1) (q := 130) rfl)]
      refine mw_go mu_g275 (k := 2) (f1 := (91, [(2, .inl (nI q)), (0, .inr (.inr (some 129))), (1, .inl (nI s))], [.inl (0 : Int32), .inl (nI q), .inr (.inr (some 130)), .inr (.inr (some 129)), .inl (nI (bs q)), .inr (.inr (U.2.2.2.1 129 4))], Hsb)) (C := []) rfl trivial ?_
      refine mw_cIe (fun _ => rfl) (show mu_is Hsb (some 130) 10 from (ub.1.1.is rfl)) (ub.getr (d := (d + 4)) db (j := 24) (by decide) rfl (nI q) (c := 0) (by decide)) ?_
      rw [show (tget (Vb.1 24) (nI q) 0) = (nm q) from ((congrArg (fun z => tget z (nI q) 0) (show Vb.1 24 = (Vb.1 24) from rfl)).trans (tget_nI (by omega))).trans ((hout.2.1 q 0 (fun y => absurd y.1 (Nat.lt_irrefl _))).trans hfq.1.1)]
      refine mw_cIe (fun _ => rfl) (show mu_is Hsb (some 129) 9 from (ub.1.1.is rfl)) (rl_index (d := (d + 4)) (dg := dgz f P s) (mk := nm q) ub db (spx_keep hS (show (Vb.2.1 99 4) = (U.2.1 99 4) from ((zzb.i 99 4 rfl).trans (zza.i 99 4 rfl))) (show (Vb.2.1 99 10) = (U.2.1 99 10) from ((zzb.i 99 10 rfl).trans (zza.i 99 10 rfl))) (show (Vb.2.1 99 11) = (U.2.1 99 11) from ((zzb.i 99 11 rfl).trans (zza.i 99 11 rfl))) (show (Vb.2.1 99 12) = (U.2.1 99 12) from ((zzb.i 99 12 rfl).trans (zza.i 99 12 rfl))) (show (Vb.2.2.1 99 5) = (U.2.2.1 99 5) from ((zzb.a 99 5 rfl).trans (zza.a 99 5 rfl))) (show (Vb.2.2.1 99 7) = (U.2.2.1 99 7) from ((zzb.a 99 7 rfl).trans (zza.a 99 7 rfl))) (show (Vb.2.2.1 99 6) = (U.2.2.1 99 6) from ((zzb.a 99 6 rfl).trans (zza.a 99 6 rfl))) (show (Vb.2.2.1 99 8).1 = (U.2.2.1 99 8).1 from ((zzb.n 99 8 rfl).trans (zza.n 99 8 rfl))) (show (Vb.2.2.1 99 18).1 = (U.2.2.1 99 18).1 from ((zzb.n 99 18 rfl).trans (zza.n 99 18 rfl))) (show (Vb.2.2.2.1 100 0) = (U.2.2.2.1 100 0) from ((zzb.r 100 0 rfl).trans (zza.r 100 0 rfl))) (show (Vb.2.2.2.1 99 0) = (U.2.2.2.1 99 0) from ((zzb.r 99 0 rfl).trans (zza.r 99 0 rfl)))) (by rw [(show (Vb.2.2.1 129 16) = (Va.2.2.1 129 16) from (zzb.a 129 16 rfl))]; exact hdg)) ?_
      have hix := ixz_lt (mk := nm q) (f := f) (dg := dgz f P s) (n := P) (fun k _ => dgz_lt hf1)
      refine mw_go mu_g275 (k := 1) (f1 := (98, [(2, .inl (nI q)), (0, .inr (.inr (some 129))), (1, .inl (nI s))], [.inl ((nI (bs q)) + (nI (ixz (nm q) f (dgz f P s) P))), .inr (.inr (U.2.2.2.1 129 4))], Hsb)) (C := []) rfl trivial ?_
      rw [(show ((nI (bs q)) + (nI (ixz (nm q) f (dgz f P s) P))) = (nI ((bs q) + (ixz (nm q) f (dgz f P s) P))) from (nI_add (bs q) (ixz (nm q) f (dgz f P s) P)))]
      refine mw_go mu_g275 (k := 1) (f1 := (99, [(2, .inl (nI q)), (0, .inr (.inr (some 129))), (1, .inl (nI s))], [.inl (mu_i Hsb (mu_p (U.2.2.2.1 129 4)) (nI ((bs q) + (ixz (nm q) f (dgz f P s) P))).toNatClampNeg)], Hsb)) (C := [mu_isr Hsb (U.2.2.2.1 129 4) 100, vp_in (nI ((bs q) + (ixz (nm q) f (dgz f P s) P))) (mu_n Hsb (mu_p (U.2.2.2.1 129 4)))]) rfl (show (mu_isr Hsb (U.2.2.2.1 129 4) 100) ∧ (vp_in (nI ((bs q) + (ixz (nm q) f (dgz f P s) P))) (mu_n Hsb (mu_p (U.2.2.2.1 129 4)))) from ⟨((ub.iA db rfl rfl (show Vb.2.2.2.1 129 4 = (U.2.2.2.1 129 4) from ((zzb.r 129 4 rfl).trans (zza.r 129 4 rfl))))).r, (ub.vA (i := (bs q) + (ixz (nm q) f (dgz f P s) P)) db rfl rfl (show Vb.2.2.2.1 129 4 = (U.2.2.2.1 129 4) from ((zzb.r 129 4 rfl).trans (zza.r 129 4 rfl))) (show (Vb.2.2.1 129 4).1 = (U.2.2.1 129 4).1 from ((zzb.n 129 4 rfl).trans (zza.n 129 4 rfl))) (by omega) (by omega))⟩) ?_
      rw [(show (mu_i Hsb (mu_p (U.2.2.2.1 129 4)) (nI ((bs q) + (ixz (nm q) f (dgz f P s) P))).toNatClampNeg) = (nI (oid q (ixz (nm q) f (dgz f P s) P))) from ((congrArg (mu_i Hsb (mu_p (U.2.2.2.1 129 4))) (show (nI ((bs q) + (ixz (nm q) f (dgz f P s) P))).toNatClampNeg = (bs q) + (ixz (nm q) f (dgz f P s) P) from nI_clamp (by omega))).trans (ub.gA db rfl rfl (show Vb.2.2.2.1 129 4 = (U.2.2.2.1 129 4) from ((zzb.r 129 4 rfl).trans (zza.r 129 4 rfl))))).trans ((congrArg (fun z => z.2 ((bs q) + (ixz (nm q) f (dgz f P s) P))) (show Vb.2.2.1 129 4 = (U.2.2.1 129 4) from ((zzb.a 129 4 rfl).trans (zza.a 129 4 rfl)))).trans (hfq.2.2.2 _ hix).1))]
      refine mw_go mu_g275 (k := 3) (f1 := (104, [(3, .inl (nI (oid q (ixz (nm q) f (dgz f P s) P)))), (2, .inl (nI q)), (0, .inr (.inr (some 129))), (1, .inl (nI s))], [.inr (.inr (mu_r Hsb 129 1))], Hsb)) (C := [mu_is Hsb (some 129) 9]) rfl (show mu_is Hsb (some 129) 9 from (ub.1.1.is rfl)) ?_
      rw [(ub.1.1.r (p := 129) (j := 1) (q := 130) rfl)]
      refine mw_go mu_g275 (k := 3) (f1 := (107, [(3, .inl (nI (oid q (ixz (nm q) f (dgz f P s) P)))), (2, .inl (nI q)), (0, .inr (.inr (some 129))), (1, .inl (nI s))], [.inl (nI (oid q (ixz (nm q) f (dgz f P s) P))), .inl (3 : Int32), .inl (nI q), .inr (.inr (some 130))], Hsb)) (C := []) rfl trivial ?_
      refine mw_cV (fun _ => rfl) (show mu_is Hsb (some 130) 10 from (ub.1.1.is rfl)) (ub.setr (C := C) (d := (d + 4)) db (j := 24) (Or.inr ⟨by decide, by decide⟩) rfl (nI q) (nI (oid q (ixz (nm q) f (dgz f P s) P))) (c := 3) (by decide)) (fun Q10 q10 => ?_)
      obtain ⟨u10, r10, d10⟩ := q10
      have ht10 : ur m C H Q10 := htb.trans r10
      have qf10 : uq F275 U (upT Vb (ax 24 Vb.1 (nI q) 3 (nI (oid q (ixz (nm q) f (dgz f P s) P))))) := qfb.ax rfl
      have hout2 : OUT U (upT Vb (ax 24 Vb.1 (nI q) 3 (nI (oid q (ixz (nm q) f (dgz f P s) P))))) (q + 1) (fun r => oid r (ixz (nm r) f (dgz f P s) P)) := hout.step (by rw [hFA.1.1]; omega) (by rw [hFA.1.1]; omega)
      refine mw_go mu_g275 (k := 2) (f1 := (114, [(3, .inl (nI (oid q (ixz (nm q) f (dgz f P s) P)))), (2, .inl (nI q)), (0, .inr (.inr (some 129))), (1, .inl (nI s))], [.inr (.inr (mu_r Q10 129 1))], Q10)) (C := [mu_is Q10 (some 129) 9]) rfl (show mu_is Q10 (some 129) 9 from (u10.1.1.is rfl)) ?_
      rw [(u10.1.1.r (p := 129) (j := 1) (q := 130) rfl)]
      refine mw_go mu_g275 (k := 2) (f1 := (116, [(3, .inl (nI (oid q (ixz (nm q) f (dgz f P s) P)))), (2, .inl (nI q)), (0, .inr (.inr (some 129))), (1, .inl (nI s))], [.inl (4 : Int32), .inl (nI q), .inr (.inr (some 130))], Q10)) (C := []) rfl trivial ?_
      refine mw_cIe (fun _ => rfl) (show mu_is Q10 (some 130) 10 from (u10.1.1.is rfl)) (u10.getr (d := (d + 4)) d10 (j := 24) (by decide) rfl (nI q) (c := 4) (by decide)) ?_
      rw [show (tget ((upT Vb (ax 24 Vb.1 (nI q) 3 (nI (oid q (ixz (nm q) f (dgz f P s) P))))).1 24) (nI q) 4) = (nI (lv q)) from ((congrArg (fun z => tget z (nI q) 4) (show (upT Vb (ax 24 Vb.1 (nI q) 3 (nI (oid q (ixz (nm q) f (dgz f P s) P))))).1 24 = ((upT Vb (ax 24 Vb.1 (nI q) 3 (nI (oid q (ixz (nm q) f (dgz f P s) P))))).1 24) from rfl)).trans (tget_nI (by omega))).trans ((hout2.2.1 q 4 (fun y => absurd y.2 (by decide))).trans hfq.1.2.2.2)]
      refine mw_go mu_g275 (k := 3) (f1 := (125, [(4, .inl (nI (lv q))), (3, .inl (nI (oid q (ixz (nm q) f (dgz f P s) P)))), (2, .inl (nI q)), (0, .inr (.inr (some 129))), (1, .inl (nI s))], [.inr (.inr (mu_r Q10 129 1))], Q10)) (C := [mu_is Q10 (some 129) 9]) rfl (show mu_is Q10 (some 129) 9 from (u10.1.1.is rfl)) ?_
      rw [(u10.1.1.r (p := 129) (j := 1) (q := 130) rfl)]
      refine mw_go mu_g275 (k := 2) (f1 := (127, [(4, .inl (nI (lv q))), (3, .inl (nI (oid q (ixz (nm q) f (dgz f P s) P)))), (2, .inl (nI q)), (0, .inr (.inr (some 129))), (1, .inl (nI s))], [.inl (1 : Int32), .inl (nI q), .inr (.inr (some 130))], Q10)) (C := []) rfl trivial ?_
      refine mw_cIe (fun _ => rfl) (show mu_is Q10 (some 130) 10 from (u10.1.1.is rfl)) (u10.getr (d := (d + 4)) d10 (j := 24) (by decide) rfl (nI q) (c := 1) (by decide)) ?_
      rw [show (tget ((upT Vb (ax 24 Vb.1 (nI q) 3 (nI (oid q (ixz (nm q) f (dgz f P s) P))))).1 24) (nI q) 1) = (tm q) from ((congrArg (fun z => tget z (nI q) 1) (show (upT Vb (ax 24 Vb.1 (nI q) 3 (nI (oid q (ixz (nm q) f (dgz f P s) P))))).1 24 = ((upT Vb (ax 24 Vb.1 (nI q) 3 (nI (oid q (ixz (nm q) f (dgz f P s) P))))).1 24) from rfl)).trans (tget_nI (by omega))).trans ((hout2.2.1 q 1 (fun y => absurd y.2 (by decide))).trans hfq.1.2.1)]
      refine mw_go mu_g275 (k := 3) (f1 := (134, [(4, .inl (nI (lv q))), (3, .inl (nI (oid q (ixz (nm q) f (dgz f P s) P)))), (2, .inl (nI q)), (0, .inr (.inr (some 129))), (1, .inl (nI s))], [.inl ((1 : Int32) <<< ((nI (lv q)) &&& 31)), .inl (tm q)], Q10)) (C := []) rfl trivial ?_
      refine mw_if (P := (tm q) = ((1 : Int32) <<< ((nI (lv q)) &&& 31))) (a := 137) (b := 144) (fun _ => rfl) trivial (fun h13 => ?_) (fun h13 => ?_)
      · -- 137: (tm q) = ((1 : Int32) <<< ((nI (lv q)) &&& 31))
        have heq : tm q = ((1 : Int32) <<< (nI (lv q) &&& 31)) := h13
        refine mw_go mu_g275 (k := 3) (f1 := (141, [(4, .inl (nI (lv q))), (3, .inl (nI (oid q (ixz (nm q) f (dgz f P s) P)))), (2, .inl (nI q)), (0, .inr (.inr (some 129))), (1, .inl (nI s))], [.inl (nI (lv q)), .inl (nI (oid q (ixz (nm q) f (dgz f P s) P))), .inr (.inr (some 129))], Q10)) (C := []) rfl trivial ?_
        have hSv : SOK (upT Vb (ax 24 Vb.1 (nI q) 3 (nI (oid q (ixz (nm q) f (dgz f P s) P))))) N us S z p := hSK.eq (show ((upT Vb (ax 24 Vb.1 (nI q) 3 (nI (oid q (ixz (nm q) f (dgz f P s) P))))).2.1 113 1) = (U.2.1 113 1) from ((zzb.i 113 1 rfl).trans (zza.i 113 1 rfl))) (show ((upT Vb (ax 24 Vb.1 (nI q) 3 (nI (oid q (ixz (nm q) f (dgz f P s) P))))).2.1 113 2) = (U.2.1 113 2) from ((zzb.i 113 2 rfl).trans (zza.i 113 2 rfl))) (show ((upT Vb (ax 24 Vb.1 (nI q) 3 (nI (oid q (ixz (nm q) f (dgz f P s) P))))).2.1 113 5) = (U.2.1 113 5) from ((zzb.i 113 5 rfl).trans (zza.i 113 5 rfl))) (show ((upT Vb (ax 24 Vb.1 (nI q) 3 (nI (oid q (ixz (nm q) f (dgz f P s) P))))).2.2.1 113 3) = (U.2.2.1 113 3) from ((zzb.a 113 3 rfl).trans (zza.a 113 3 rfl))) (show ((upT Vb (ax 24 Vb.1 (nI q) 3 (nI (oid q (ixz (nm q) f (dgz f P s) P))))).2.2.1 113 4) = (U.2.2.1 113 4) from ((zzb.a 113 4 rfl).trans (zza.a 113 4 rfl))) (congrFun (show (upT Vb (ax 24 Vb.1 (nI q) 3 (nI (oid q (ixz (nm q) f (dgz f P s) P))))).2.2.2.2.2 = U.2.2.2.2.2 from ((zzb.2.2.2.2.2 rfl).trans (zza.2.2.2.2.2 rfl))) 114)
        obtain ⟨st, fc, hsa, hst, -, -, -, -⟩ := hSv.2.2.2.2.1 (oid q (ixz (nm q) f (dgz f P s) P)) (hfq.2.2.2 _ hix).2.1 (hfq.2.2.2 _ hix).2.2.1
        obtain ⟨bf1, bt1, hzz⟩ := hbz
        refine mw_cV (fun _ => rfl) (show mu_is Q10 (some 129) 9 from (u10.1.1.is rfl)) (rl_nto (d := d) (C := C) (k := lv q) (A := SNG nm tm lv S (fun r => oid r (ixz (nm r) f (dgz f P s) P)) q (lv q)) u10 d10 (spx_keep hS (show ((upT Vb (ax 24 Vb.1 (nI q) 3 (nI (oid q (ixz (nm q) f (dgz f P s) P))))).2.1 99 4) = (U.2.1 99 4) from ((zzb.i 99 4 rfl).trans (zza.i 99 4 rfl))) (show ((upT Vb (ax 24 Vb.1 (nI q) 3 (nI (oid q (ixz (nm q) f (dgz f P s) P))))).2.1 99 10) = (U.2.1 99 10) from ((zzb.i 99 10 rfl).trans (zza.i 99 10 rfl))) (show ((upT Vb (ax 24 Vb.1 (nI q) 3 (nI (oid q (ixz (nm q) f (dgz f P s) P))))).2.1 99 11) = (U.2.1 99 11) from ((zzb.i 99 11 rfl).trans (zza.i 99 11 rfl))) (show ((upT Vb (ax 24 Vb.1 (nI q) 3 (nI (oid q (ixz (nm q) f (dgz f P s) P))))).2.1 99 12) = (U.2.1 99 12) from ((zzb.i 99 12 rfl).trans (zza.i 99 12 rfl))) (show ((upT Vb (ax 24 Vb.1 (nI q) 3 (nI (oid q (ixz (nm q) f (dgz f P s) P))))).2.2.1 99 5) = (U.2.2.1 99 5) from ((zzb.a 99 5 rfl).trans (zza.a 99 5 rfl))) (show ((upT Vb (ax 24 Vb.1 (nI q) 3 (nI (oid q (ixz (nm q) f (dgz f P s) P))))).2.2.1 99 7) = (U.2.2.1 99 7) from ((zzb.a 99 7 rfl).trans (zza.a 99 7 rfl))) (show ((upT Vb (ax 24 Vb.1 (nI q) 3 (nI (oid q (ixz (nm q) f (dgz f P s) P))))).2.2.1 99 6) = (U.2.2.1 99 6) from ((zzb.a 99 6 rfl).trans (zza.a 99 6 rfl))) (show ((upT Vb (ax 24 Vb.1 (nI q) 3 (nI (oid q (ixz (nm q) f (dgz f P s) P))))).2.2.1 99 8).1 = (U.2.2.1 99 8).1 from ((zzb.n 99 8 rfl).trans (zza.n 99 8 rfl))) (show ((upT Vb (ax 24 Vb.1 (nI q) 3 (nI (oid q (ixz (nm q) f (dgz f P s) P))))).2.2.1 99 18).1 = (U.2.2.1 99 18).1 from ((zzb.n 99 18 rfl).trans (zza.n 99 18 rfl))) (show ((upT Vb (ax 24 Vb.1 (nI q) 3 (nI (oid q (ixz (nm q) f (dgz f P s) P))))).2.2.2.1 100 0) = (U.2.2.2.1 100 0) from ((zzb.r 100 0 rfl).trans (zza.r 100 0 rfl))) (show ((upT Vb (ax 24 Vb.1 (nI q) 3 (nI (oid q (ixz (nm q) f (dgz f P s) P))))).2.2.2.1 99 0) = (U.2.2.2.1 99 0) from ((zzb.r 99 0 rfl).trans (zza.r 99 0 rfl)))) hlq (show BZ (upT Vb (ax 24 Vb.1 (nI q) 3 (nI (oid q (ixz (nm q) f (dgz f P s) P))))) bf1 bt1 from hzz) (by rw [(show ((upT Vb (ax 24 Vb.1 (nI q) 3 (nI (oid q (ixz (nm q) f (dgz f P s) P))))).2.2.1 129 12).1 = (U.2.2.1 129 12).1 from ((zzb.n 129 12 rfl).trans (zza.n 129 12 rfl)))]; exact hl12) (by rw [(show ((upT Vb (ax 24 Vb.1 (nI q) 3 (nI (oid q (ixz (nm q) f (dgz f P s) P))))).2.2.1 129 12).1 = (U.2.2.1 129 12).1 from ((zzb.n 129 12 rfl).trans (zza.n 129 12 rfl)))]; exact hl12b) (show OPT (upT Vb (ax 24 Vb.1 (nI q) 3 (nI (oid q (ixz (nm q) f (dgz f P s) P))))) _ _ _ _ from hop (lv q) hlq) hsa hst (fun x hx => by have y := (hfq.2.2.2 _ hix).2.2.2 x hx; rw [heq, pm_one hlq gP] at y; exact y)) (fun Q14 q14 => ?_)
        obtain ⟨u14, r14, z14, hbz2, ho2, hc2, hd2⟩ := q14
        have ht14 : ur m C H Q14 := ht10.trans r14
        obtain ⟨V14, d14⟩ : ∃ V, ud m Q14 = V := ⟨_, rfl⟩
        rw [d14] at z14 hbz2 ho2 hc2 hd2
        have qf14 : uq F275 U V14 := qf10.tr z14 rfl
        refine mw_go mu_g275 (k := 1) (f1 := (147, [(2, .inl ((nI q) + 1)), (4, .inl (nI (lv q))), (3, .inl (nI (oid q (ixz (nm q) f (dgz f P s) P)))), (0, .inr (.inr (some 129))), (1, .inl (nI s))], [], Q14)) (C := []) rfl trivial ?_
        rw [(show ((nI q) + 1) = (nI (q + 1)) from (nI_add q 1))]
        refine mw_go mu_g275 (k := 1) (f1 := (60, [(2, .inl (nI (q + 1))), (4, .inl (nI (lv q))), (3, .inl (nI (oid q (ixz (nm q) f (dgz f P s) P)))), (0, .inr (.inr (some 129))), (1, .inl (nI s))], [], Q14)) (C := []) rfl trivial ?_
        exact mw_sub (by simp) (ihb (q + 1, Q14) ⟨u14, ht14, (show uq F275b Va (ud m Q14) from by rw [d14]; exact ((zzb.T (fun q hq => by first | exact ax_ne (in1_ne rfl hq) | exact ap_ne (in1_ne rfl hq) | exact fu_ne _ _ (in1_ne rfl hq))).tr z14 rfl)), (show (q + 1) ≤ nf from (by omega)), (show OUT U (ud m Q14) (q + 1) (fun r => oid r (ixz (nm r) f (dgz f P s) P)) from by rw [d14]; exact (hout2.eq (z14.t 24 rfl))), (show ∀ k, k < P → OPT (ud m Q14) (sm f 0 k) (f k) k (SNG nm tm lv S (fun r => oid r (ixz (nm r) f (dgz f P s) P)) (q + 1) k) from by rw [d14]; exact (fun j hj => by by_cases e1 : j = lv q; (rw [e1]; exact ho2.congr (fun x _ => ⟨fun y r hr h1 h2 => by by_cases e0 : r = q; (rw [e0]; exact y.2); exact y.1 r (by omega) h1 h2, fun y => ⟨fun r hr h1 h2 => y r (by omega) h1 h2, y q (by omega) rfl heq⟩⟩)); (refine OPT.congr (A := SNG nm tm lv S (fun r => oid r (ixz (nm r) f (dgz f P s) P)) q j) (OPT.other (show OPT (upT Vb (ax 24 Vb.1 (nI q) 3 (nI (oid q (ixz (nm q) f (dgz f P s) P))))) (sm f 0 j) (f j) j _ from hop j hj) (hc2 j e1) (fun x h1 h2 => hd2 x (by have y1 := sm_seg (f := f) (k := j) (P := lv q); have y2 := sm_seg (f := f) (k := lv q) (P := j); omega))) (fun x _ => ⟨fun y r hr h1 h2 => by by_cases e0 : r = q; (rw [e0] at h1; exact absurd h1.symm e1); exact y r (by omega) h1 h2, fun y r hr h1 h2 => y r (by omega) h1 h2⟩)))), (show ∃ bf' bt', BZ (ud m Q14) bf' bt' from by rw [d14]; exact hbz2)⟩ (by show nf - (q + 1) < nf - q; omega))
      · -- 144: not (tm q) = ((1 : Int32) <<< ((nI (lv q)) &&& 31))
        have hne : ¬ tm q = ((1 : Int32) <<< (nI (lv q) &&& 31)) := h13
        refine mw_go mu_g275 (k := 1) (f1 := (147, [(2, .inl ((nI q) + 1)), (4, .inl (nI (lv q))), (3, .inl (nI (oid q (ixz (nm q) f (dgz f P s) P)))), (0, .inr (.inr (some 129))), (1, .inl (nI s))], [], Q10)) (C := []) rfl trivial ?_
        rw [(show ((nI q) + 1) = (nI (q + 1)) from (nI_add q 1))]
        refine mw_go mu_g275 (k := 1) (f1 := (60, [(2, .inl (nI (q + 1))), (4, .inl (nI (lv q))), (3, .inl (nI (oid q (ixz (nm q) f (dgz f P s) P)))), (0, .inr (.inr (some 129))), (1, .inl (nI s))], [], Q10)) (C := []) rfl trivial ?_
        exact mw_sub (by simp) (ihb (q + 1, Q10) ⟨u10, ht10, (show uq F275b Va (ud m Q10) from by rw [d10]; exact (zzb.T (fun q hq => by first | exact ax_ne (in1_ne rfl hq) | exact ap_ne (in1_ne rfl hq) | exact fu_ne _ _ (in1_ne rfl hq)))), (show (q + 1) ≤ nf from (by omega)), (show OUT U (ud m Q10) (q + 1) (fun r => oid r (ixz (nm r) f (dgz f P s) P)) from by rw [d10]; exact hout2), (show ∀ k, k < P → OPT (ud m Q10) (sm f 0 k) (f k) k (SNG nm tm lv S (fun r => oid r (ixz (nm r) f (dgz f P s) P)) (q + 1) k) from by rw [d10]; exact (fun j hj => (show OPT (upT Vb (ax 24 Vb.1 (nI q) 3 (nI (oid q (ixz (nm q) f (dgz f P s) P))))) (sm f 0 j) (f j) j _ from hop j hj).congr (fun x _ => ⟨fun y r hr h1 h2 => by by_cases e0 : r = q; (rw [e0] at h1 h2; exact absurd (h1 ▸ h2) hne); exact y r (by omega) h1 h2, fun y r hr h1 h2 => y r (by omega) h1 h2⟩))), (show ∃ bf' bt', BZ (ud m Q10) bf' bt' from by rw [d10]; exact hbz)⟩ (by show nf - (q + 1) < nf - q; omega))
    · -- 150: not (nI q) < (nI nf)
      have nh6 : ¬ q < nf := fun z => h6 (show nI q < nI nf from (nI_ltI (by omega) (by omega)).mpr z)
      have hqe : q = nf := by omega
      rw [hqe] at hout hop
      exact mw_of (fun _ => mu_ret rfl trivial ⟨Hsb, rfl, ub, htb, (by rw [db]; exact qfb), (by rw [db]; exact fun j hj => (congrArg (fun y => y.2 j) (zzb.a 129 16 rfl)).trans (hdg j hj)), (by rw [db]; exact hop), (by rw [db]; exact hout), (by rw [db]; unfold PSD; rw [show Vb.1 22 = Va.1 22 from zzb.t 22 rfl]; exact hps), (by rw [db]; exact hbz)⟩)
end Pose
