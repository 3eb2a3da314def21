/-! RELATION: what the tables of more VARIABLES leave -/
section IsLeft
variable {H : mu_H} {U V : Ud} {m d P n k j q r N us nf s t a x y st nb b : Nat} {C : Nat → Nat} {bo : Nat → Nat → Nat} {f dg dg' bs lv lc : Nat → Nat} {nm tm : Nat → Int32} {oid : Nat → Nat → Nat} {oc : Nat → Nat} {S : Nat → Nat → Bool} {z : Nat → Nat} {p : Nat → Bool} {mk : Int32}
/-- how many STATES share the digits before a place -/
def Bk (f : Nat → Nat) (P k : Nat) : Nat := pd f k (P - k)
theorem Bk_step (hk : k < P) : Bk f P k = f k * Bk f P (k + 1) := by
  unfold Bk
  have e := pd_head (f := f) (a := k) (P - (k + 1))
  rw [show P - (k + 1) + 1 = P - k by omega] at e
  exact e
theorem Bk_pos (hf : ∀ k, 1 ≤ f k) : 1 ≤ Bk f P k := pd_pos (fun k _ _ => hf k)
theorem Bk_dvd : ∀ n, j + n ≤ P → ∃ r, Bk f P j = Bk f P (j + n) * r
  | 0, _ => ⟨1, (Nat.mul_one _).symm⟩
  | n + 1, h => by
    obtain ⟨r, hr⟩ := Bk_dvd n (by omega)
    refine ⟨f (j + n) * r, ?_⟩
    rw [hr, Bk_step (k := j + n) (by omega), show j + (n + 1) = j + n + 1 by omega, ← Nat.mul_assoc, Nat.mul_comm (f (j + n))]
theorem dgz_Bk : dgzU f P s k = s / Bk f P (k + 1) % f k := by
  unfold dgzU Bk
  rw [show P - (k + 1) = P - 1 - k by omega]
theorem blk_q (hf : ∀ k, 1 ≤ f k) (hs : st = Bk f P k * a) (h1 : st ≤ t) (h2 : t < st + Bk f P k) : t / Bk f P k = a := by
  have hp := Bk_pos (P := P) (k := k) hf
  refine Nat.div_eq_of_lt_le ?_ ?_
  · rw [Nat.mul_comm, ← hs]; exact h1
  · rw [Nat.succ_mul, Nat.mul_comm, ← hs]; exact h2
theorem blk_dg (hf : ∀ k, 1 ≤ f k) (hj : j < k) (hk : k ≤ P) (hs : st = Bk f P k * a) (h1 : st ≤ t) (h2 : t < st + Bk f P k) : dgzU f P t j = dgzU f P st j := by
  obtain ⟨r, hr⟩ := Bk_dvd (f := f) (P := P) (j := j + 1) (k - (j + 1)) (by omega)
  rw [show j + 1 + (k - (j + 1)) = k by omega] at hr
  have hp := Bk_pos (P := P) (k := k) hf
  rw [dgz_Bk, dgz_Bk, hr, ← Nat.div_div_eq_div_mul, ← Nat.div_div_eq_div_mul, blk_q hf hs h1 h2, blk_q hf hs (Nat.le_refl _) (by omega)]
theorem blk_k (hf : ∀ k, 1 ≤ f k) (hk : k < P) (hs : st = Bk f P k * a) (hx : x < f k) (h1 : st + x * Bk f P (k + 1) ≤ t) (h2 : t < st + x * Bk f P (k + 1) + Bk f P (k + 1)) : dgzU f P t k = x := by
  have e : st + x * Bk f P (k + 1) = Bk f P (k + 1) * (f k * a + x) := by
    rw [hs, Bk_step hk, Nat.mul_add, Nat.mul_comm x, ← Nat.mul_assoc, Nat.mul_comm (f k)]
  rw [dgz_Bk, blk_q (k := k + 1) hf e h1 h2, Nat.mul_add_mod]
  exact Nat.mod_eq_of_lt hx
theorem ixz_agree (h : ∀ j, j < n → ¬ mb mk j = 0 → dg j = dg' j) : ixz mk f dg n = ixz mk f dg' n := by
  induction n with
  | zero => rfl
  | succ n ih =>
    have i1 := ih (fun j hj => h j (by omega))
    show (if mb mk n = 0 then ixz mk f dg n else ixz mk f dg n * f n + dg n) = (if mb mk n = 0 then ixz mk f dg' n else ixz mk f dg' n * f n + dg' n)
    by_cases e : mb mk n = 0
    · rw [if_pos e, if_pos e, i1]
    · rw [if_neg e, if_neg e, i1, h n (by omega) e]
/-- the last factor of a level before q -/
def lsf (lv : Nat → Nat) (k : Nat) : Nat → Int32
  | 0 => -1
  | q + 1 => if lv q = k then nI q else lsf lv k q
theorem lsf_in (hq : q ≤ 67108864) (h : ¬ lsf lv k q < 0) : ∃ r, r < q ∧ lv r = k ∧ lsf lv k q = nI r ∧ ∀ r', r < r' → r' < q → ¬ lv r' = k := by
  induction q with
  | zero => exact absurd (show lsf lv k 0 < 0 by show (-1 : Int32) < 0; decide) h
  | succ q ih =>
    by_cases e : lv q = k
    · exact ⟨q, by omega, e, if_pos e, fun r' h1 h2 => absurd h1 (by omega)⟩
    · have e1 : lsf lv k (q + 1) = lsf lv k q := if_neg e
      rw [e1] at h
      obtain ⟨r, r1, r2, r3, r4⟩ := ih (by omega) h
      refine ⟨r, by omega, r2, e1.trans r3, fun r' h1 h2 => ?_⟩
      by_cases e2 : r' = q
      · rw [e2]; exact e
      · exact r4 r' h1 (by omega)
theorem lsf_none (hq : q ≤ 67108864) (h : lsf lv k q < 0) (hr : r < q) : ¬ lv r = k := by
  induction q with
  | zero => exact absurd hr (Nat.not_lt_zero _)
  | succ q ih =>
    by_cases e : lv q = k
    · have e1 : lsf lv k (q + 1) = nI q := if_pos e
      rw [e1] at h
      exact absurd h (nI_pos (by omega))
    · have e1 : lsf lv k (q + 1) = lsf lv k q := if_neg e
      rw [e1] at h
      by_cases e2 : r = q
      · rw [e2]; exact e
      · exact ih (by omega) h (by omega)
/-- the chains of factors: lc is the level of one that is in a chain, and no level of one that isn't -/
def CHN (V : Ud) (P nf : Nat) (lc : Nat → Nat) : Prop := (∀ k, k < P → (V.2.2.1 129 15).2 k = lsf lc k nf) ∧ ∀ r, r < nf → lc r < P → (V.1 24).2 r 5 = lsf lc (lc r) r
/-- a factor of more VARIABLES allows it -/
def MLT (tm : Nat → Int32) (lc : Nat → Nat) (S : Nat → Nat → Bool) (oc : Nat → Nat) (P : Nat) (f dg : Nat → Nat) (G : Nat → Prop) (k q r : Nat) : Prop := q ≤ r → lc r = k → G r → S (oc r) (ixz (tm r) f dg P) = true
/-- PathProver$Relation.isLeft(I)Z -/
abbrev mu_m281 : ev_M := (8, (some .boolean), [], ev_b281)
theorem mu_g281 : mu_good mu_m281 := mu_goodk ev_k281
theorem rl_left (h : um m H) (e : ud m H = U) (hS : spx m U P f) (hk : k < P) (hd : ∀ k, k < P → (U.2.2.1 129 16).2 k = nI (dg k)) (hdl : ∀ k, k < P → dg k < f k) (hSK : SOK U N us S z p) (h24 : (U.1 24).1 = nf) (hnf : nf ≤ 67108864) (hch : CHN U P nf lc) (hpm : ∀ r, r < nf → pm (tm r) f P ≤ 67108864) (htm : ∀ r, r < nf → (U.1 24).2 r 1 = tm r) (hoc : ∀ r, r < nf → fin nb bo b 0 nf r → (U.1 24).2 r 3 = nI (oc r) ∧ oc r < N ∧ p (oc r) = true) (hB : BRT U nb bo) (hBI : BIN nb b) (hBO : BOK nb bo 0 nf) (hb : U.2.1 129 21 = nI b) : mu_TI (mu_D (d + 3)) 281 [.inr (.inr (some 129)), .inl (nI k)] H (fun x H1 => (x = 1 ∧ (∀ r, r < nf → lc r = k → fin nb bo b 0 nf r → S (oc r) (ixz (tm r) f dg P) = true) ∧ H1 = H) ∨ (x = 0 ∧ ¬ (∀ r, r < nf → lc r = k → fin nb bo b 0 nf r → S (oc r) (ixz (tm r) f dg P) = true) ∧ H1 = H)) := by
  obtain ⟨⟨s4, s10, s11, s12⟩, hk5, ⟨g8, g8b, g18, g18b⟩, ⟨gP, gpd, gsm⟩, hsp, hmo⟩ := (show spx m U P f from hS)
  have hbn : b < nb := by rcases hBI with ⟨y1, y2⟩ | ⟨y1, y2⟩ <;> omega
  have hnb1 := hB.1
  have hnb2 := hB.2.1
  have hcm := (cmz_le hBI hBO).1
  have hb0 : b = 0 → cmz nb bo 0 nf = nf := fun y => by unfold cmz; rcases hBI with ⟨y1, y2⟩ | ⟨y1, y2⟩; (rw [if_neg (by omega)]); omega
  have hbe : b = 0 ∨ (bo b 0 ≤ enz nb bo b 0 nf ∧ enz nb bo b 0 nf ≤ nf) := by rcases hBI with ⟨y1, y2⟩ | ⟨y1, y2⟩; (exact Or.inl y1); exact Or.inr (hBO.2 b y1 y2).2
  have hbb := (hB.2.2 b 0 hbn (by decide)).2
  have hbz : enz nb bo b 0 nf ≤ 67108864 := by unfold enz; split; (exact (hB.2.2 (b + 1) 0 (by omega) (by decide)).2); exact hnf
  refine mu_meth (M := mu_m281) rfl rfl ?_
  refine mw_ht (mu_fn_of (show [0, 1].Nodup by decide)) ?_
  refine mw_go mu_g281 (k := 2) (f1 := (2, [(0, .inr (.inr (some 129))), (1, .inl (nI k))], [.inl (0 : Int32), .inr (.inr (some 129))], H)) (C := []) rfl trivial ?_
  refine mw_cIe (fun _ => rfl) (show mu_is H (some 129) 9 from (h.1.1.is rfl)) (rl_cend0 (d := d) h e hB h24 hnf) ?_
  refine mw_go mu_g281 (k := 3) (f1 := (10, [(2, .inl (nI (cmz nb bo 0 nf))), (0, .inr (.inr (some 129))), (1, .inl (nI k))], [.inr (.inr (mu_r H 129 23))], H)) (C := [mu_is H (some 129) 9]) rfl (show mu_is H (some 129) 9 from (h.1.1.is rfl)) ?_
  rw [(h.1.1.r (p := 129) (j := 23) (q := 167) rfl)]
  refine mw_go mu_g281 (k := 2) (f1 := (14, [(2, .inl (nI (cmz nb bo 0 nf))), (0, .inr (.inr (some 129))), (1, .inl (nI k))], [.inl (mu_i H 129 21), .inr (.inr (some 167))], H)) (C := [mu_is H (some 129) 9]) rfl (show mu_is H (some 129) 9 from (h.1.1.is rfl)) ?_
  rw [(show mu_i H 129 21 = (nI b) from (ud_i (U := U) (m := m) (P := 129) (j := 21) e rfl).trans hb)]
  refine mw_go mu_g281 (k := 1) (f1 := (15, [(2, .inl (nI (cmz nb bo 0 nf))), (0, .inr (.inr (some 129))), (1, .inl (nI k))], [.inl (0 : Int32), .inl (nI b), .inr (.inr (some 167))], H)) (C := []) rfl trivial ?_
  refine mw_cIe (fun _ => rfl) (show mu_is H (some 167) 10 from (h.1.1.is rfl)) (h.getr (d := (d + 1)) e (j := 27) (by decide) rfl (nI b) (c := 0) (by decide)) ?_
  rw [show (tget (U.1 27) (nI b) 0) = (nI (bo b 0)) from ((congrArg (fun z => tget z (nI b) 0) (show U.1 27 = (U.1 27) from rfl)).trans (tget_nI (by omega))).trans (hB.2.2 b 0 hbn (by decide)).1]
  refine mw_go mu_g281 (k := 3) (f1 := (21, [(3, .inl (nI (bo b 0))), (2, .inl (nI (cmz nb bo 0 nf))), (0, .inr (.inr (some 129))), (1, .inl (nI k))], [.inl (0 : Int32), .inr (.inr (some 129))], H)) (C := []) rfl trivial ?_
  refine mw_cIe (fun _ => rfl) (show mu_is H (some 129) 9 from (h.1.1.is rfl)) (rl_bend0 (d := d) (b := b) h e hB hb hbn h24 hnf) ?_
  refine mw_go mu_g281 (k := 3) (f1 := (30, [(4, .inl (nI (enz nb bo b 0 nf))), (3, .inl (nI (bo b 0))), (2, .inl (nI (cmz nb bo 0 nf))), (0, .inr (.inr (some 129))), (1, .inl (nI k))], [.inr (.inr (mu_r H 129 15))], H)) (C := [mu_is H (some 129) 9]) rfl (show mu_is H (some 129) 9 from (h.1.1.is rfl)) ?_
  rw [(h.1.1.r (p := 129) (j := 15) (q := 143) rfl)]
  refine mw_go mu_g281 (k := 2) (f1 := (32, [(4, .inl (nI (enz nb bo b 0 nf))), (3, .inl (nI (bo b 0))), (2, .inl (nI (cmz nb bo 0 nf))), (0, .inr (.inr (some 129))), (1, .inl (nI k))], [.inl (mu_i H 143 (nI k).toNatClampNeg)], H)) (C := [mu_isr H (some 143) 100, vp_in (nI k) (mu_n H 143)]) rfl (show (mu_isr H (some 143) 100) ∧ (vp_in (nI k) (mu_n H 143)) from ⟨((h.iA e rfl rfl ((ud_q (m := m) (P := 129) (j := 15) e rfl).symm.trans (h.1.1.r (p := 129) (j := 15) (q := 143) rfl)))).r, (by rw [show mu_n H 143 = 14 from (h.1.1.a (p := 143) (x := (100, 14)) rfl).2]; exact vp_in_nI (n := k) (by omega) (by decide))⟩) ?_
  rw [(show (mu_i H 143 (nI k).toNatClampNeg) = (lsf lc k nf) from ((congrArg (mu_i H 143) (show (nI k).toNatClampNeg = k from nI_clamp (by omega))).trans (h.gA e rfl rfl ((ud_q (m := m) (P := 129) (j := 15) e rfl).symm.trans (h.1.1.r (p := 129) (j := 15) (q := 143) rfl)))).trans ((congrArg (fun z => z.2 k) (show U.2.2.1 129 15 = (U.2.2.1 129 15) from rfl)).trans (hch.1 k hk)))]
  refine mw_go mu_g281 (k := 3) (f1 := (37, [(6, .inl (0 : Int32)), (5, .inl (lsf lc k nf)), (4, .inl (nI (enz nb bo b 0 nf))), (3, .inl (nI (bo b 0))), (2, .inl (nI (cmz nb bo 0 nf))), (0, .inr (.inr (some 129))), (1, .inl (nI k))], [], H)) (C := []) rfl trivial ?_
  show mu_W _ _ (37, [(6, .inl (nI 0)), (5, .inl (lsf lc k nf)), (4, .inl (nI (enz nb bo b 0 nf))), (3, .inl (nI (bo b 0))), (2, .inl (nI (cmz nb bo 0 nf))), (0, .inr (.inr (some 129))), (1, .inl (nI k))], [], H) _
  refine mw_sub (L' := [(6, .inl (nI 0)), (5, .inl (lsf lc k nf)), (0, .inr (.inr (some 129))), (1, .inl (nI k)), (2, .inl (nI (cmz nb bo 0 nf))), (3, .inl (nI (bo b 0))), (4, .inl (nI (enz nb bo b 0 nf)))]) (by simp) ?_
  refine mw_down (α := Nat × Nat) (fun zs => (37, [(6, .inl (nI zs.1)), (5, .inl (lsf lc k zs.2)), (0, .inr (.inr (some 129))), (1, .inl (nI k)), (2, .inl (nI (cmz nb bo 0 nf))), (3, .inl (nI (bo b 0))), (4, .inl (nI (enz nb bo b 0 nf)))], [], H)) (fun zs => nf - zs.1) (fun zs => (zs.1 + zs.2 ≤ nf) ∧ (∀ ew, ew < nf → MLT tm lc S oc P f dg (fin nb bo b 0 nf) k zs.2 ew)) (fun zs hza iha => ?_) (0, nf) ⟨(show 0 + nf ≤ nf from (by omega)), (show ∀ ew, ew < nf → MLT tm lc S oc P f dg (fin nb bo b 0 nf) k nf ew from (fun r hr h1 => absurd h1 (by omega)))⟩
  obtain ⟨i, q⟩ := zs
  obtain ⟨hi, hM⟩ := hza
  have hi : i + q ≤ nf := hi
  have hM : ∀ ew, ew < nf → MLT tm lc S oc P f dg (fin nb bo b 0 nf) k q ew := hM
  show mu_W _ _ (37, [(6, .inl (nI i)), (5, .inl (lsf lc k q)), (0, .inr (.inr (some 129))), (1, .inl (nI k)), (2, .inl (nI (cmz nb bo 0 nf))), (3, .inl (nI (bo b 0))), (4, .inl (nI (enz nb bo b 0 nf)))], [], H) _
  refine mw_go mu_g281 (k := 3) (f1 := (43, [(6, .inl (nI i)), (5, .inl (lsf lc k q)), (0, .inr (.inr (some 129))), (1, .inl (nI k)), (2, .inl (nI (cmz nb bo 0 nf))), (3, .inl (nI (bo b 0))), (4, .inl (nI (enz nb bo b 0 nf)))], [.inr (.inr (mu_r H 129 1)), .inl (nI i)], H)) (C := [mu_is H (some 129) 9]) rfl (show mu_is H (some 129) 9 from (h.1.1.is rfl)) ?_
  rw [(h.1.1.r (p := 129) (j := 1) (q := 130) rfl)]
  refine mw_go mu_g281 (k := 1) (f1 := (46, [(6, .inl (nI i)), (5, .inl (lsf lc k q)), (0, .inr (.inr (some 129))), (1, .inl (nI k)), (2, .inl (nI (cmz nb bo 0 nf))), (3, .inl (nI (bo b 0))), (4, .inl (nI (enz nb bo b 0 nf)))], [.inl (mu_i H 130 2), .inl (nI i)], H)) (C := [mu_is H (some 130) 10]) rfl (show mu_is H (some 130) 10 from (h.1.1.is rfl)) ?_
  rw [(show mu_i H 130 2 = (nI nf) from (h.size e (j := 24) (by decide) rfl).trans (congrArg nI ((congrArg Prod.fst (show U.1 24 = (U.1 24) from rfl)).trans h24)))]
  refine mw_if (P := (nI i) < (nI nf)) (a := 49) (b := 142) (fun _ => rfl) trivial (fun h4 => ?_) (fun h4 => ?_)
  · -- 49: (nI i) < (nI nf)
    have nh4 : i < nf := (nI_ltI (by omega) (by omega)).mp (show nI i < nI nf from h4)
    refine mw_go mu_g281 (k := 1) (f1 := (51, [(6, .inl (nI i)), (5, .inl (lsf lc k q)), (0, .inr (.inr (some 129))), (1, .inl (nI k)), (2, .inl (nI (cmz nb bo 0 nf))), (3, .inl (nI (bo b 0))), (4, .inl (nI (enz nb bo b 0 nf)))], [.inl (lsf lc k q)], H)) (C := []) rfl trivial ?_
    refine mw_if (P := (lsf lc k q) < 0) (a := 142) (b := 54) (fun _ => rfl) trivial (fun h5 => ?_) (fun h5 => ?_)
    · -- 142: (lsf lc k q) < 0
      refine mw_go mu_g281 (k := 1) (f1 := (143, [(6, .inl (nI i)), (5, .inl (lsf lc k q)), (0, .inr (.inr (some 129))), (1, .inl (nI k)), (2, .inl (nI (cmz nb bo 0 nf))), (3, .inl (nI (bo b 0))), (4, .inl (nI (enz nb bo b 0 nf)))], [.inl (1 : Int32)], H)) (C := []) rfl trivial ?_
      exact mw_of (fun _ => mu_ret rfl (Or.inr rfl) ⟨(1 : Int32), H, rfl, Or.inl ⟨rfl, (fun r hr g2 g3 => (by by_cases e1 : q ≤ r; exact hM r hr e1 g2 g3; exact absurd g2 (lsf_none (q := q) (by omega) h5 (by omega)))), rfl⟩⟩)
    · -- 54: not (lsf lc k q) < 0
      obtain ⟨r, hrq, hrk, hre, hlast⟩ := lsf_in (by omega) h5
      rw [hre]
      refine mw_go mu_g281 (k := 2) (f1 := (57, [(6, .inl (nI i)), (5, .inl (nI r)), (0, .inr (.inr (some 129))), (1, .inl (nI k)), (2, .inl (nI (cmz nb bo 0 nf))), (3, .inl (nI (bo b 0))), (4, .inl (nI (enz nb bo b 0 nf)))], [.inl (nI (cmz nb bo 0 nf)), .inl (nI r)], H)) (C := []) rfl trivial ?_
      refine mw_if (P := (nI r) < (nI (cmz nb bo 0 nf))) (a := 73) (b := 60) (fun _ => rfl) trivial (fun h6 => ?_) (fun h6 => ?_)
      · -- 73: (nI r) < (nI (cmz nb bo 0 nf))
        have nh6 : r < (cmz nb bo 0 nf) := (nI_ltI (by omega) (by omega)).mp (show nI r < nI (cmz nb bo 0 nf) from h6)
        refine mw_go mu_g281 (k := 2) (f1 := (78, [(6, .inl (nI i)), (5, .inl (nI r)), (0, .inr (.inr (some 129))), (1, .inl (nI k)), (2, .inl (nI (cmz nb bo 0 nf))), (3, .inl (nI (bo b 0))), (4, .inl (nI (enz nb bo b 0 nf)))], [.inl (1 : Int32)], H)) (C := []) rfl trivial ?_
        have hG : fin nb bo b 0 nf r := by first | exact Or.inl (by omega) | exact Or.inr ⟨(by rcases Nat.eq_zero_or_pos b with y | y; (have := hb0 y; omega); exact y), by omega, by omega⟩
        refine mw_go mu_g281 (k := 2) (f1 := (82, [(7, .inl (1 : Int32)), (6, .inl (nI i)), (5, .inl (nI r)), (0, .inr (.inr (some 129))), (1, .inl (nI k)), (2, .inl (nI (cmz nb bo 0 nf))), (3, .inl (nI (bo b 0))), (4, .inl (nI (enz nb bo b 0 nf)))], [.inl (1 : Int32)], H)) (C := []) rfl trivial ?_
        refine mw_if (P := (1 : Int32) = 0) (a := 124) (b := 85) (fun _ => rfl) trivial (fun h7 => absurd h7 (by decide)) (fun h7 => ?_)
        refine mw_go mu_g281 (k := 2) (f1 := (89, [(7, .inl (1 : Int32)), (6, .inl (nI i)), (5, .inl (nI r)), (0, .inr (.inr (some 129))), (1, .inl (nI k)), (2, .inl (nI (cmz nb bo 0 nf))), (3, .inl (nI (bo b 0))), (4, .inl (nI (enz nb bo b 0 nf)))], [.inr (.inr (mu_r H 129 0))], H)) (C := [mu_is H (some 129) 9]) rfl (show mu_is H (some 129) 9 from (h.1.1.is rfl)) ?_
        rw [(h.1.1.r (p := 129) (j := 0) (q := 99) rfl)]
        refine mw_go mu_g281 (k := 1) (f1 := (92, [(7, .inl (1 : Int32)), (6, .inl (nI i)), (5, .inl (nI r)), (0, .inr (.inr (some 129))), (1, .inl (nI k)), (2, .inl (nI (cmz nb bo 0 nf))), (3, .inl (nI (bo b 0))), (4, .inl (nI (enz nb bo b 0 nf)))], [.inr (.inr (mu_r H 99 2))], H)) (C := [mu_is H (some 99) 13]) rfl (show mu_is H (some 99) 13 from (h.1.1.is rfl)) ?_
        rw [(h.1.1.r (p := 99) (j := 2) (q := 113) rfl)]
        refine mw_go mu_g281 (k := 2) (f1 := (96, [(7, .inl (1 : Int32)), (6, .inl (nI i)), (5, .inl (nI r)), (0, .inr (.inr (some 129))), (1, .inl (nI k)), (2, .inl (nI (cmz nb bo 0 nf))), (3, .inl (nI (bo b 0))), (4, .inl (nI (enz nb bo b 0 nf)))], [.inr (.inr (mu_r H 129 1)), .inr (.inr (some 113))], H)) (C := [mu_is H (some 129) 9]) rfl (show mu_is H (some 129) 9 from (h.1.1.is rfl)) ?_
        rw [(h.1.1.r (p := 129) (j := 1) (q := 130) rfl)]
        refine mw_go mu_g281 (k := 2) (f1 := (99, [(7, .inl (1 : Int32)), (6, .inl (nI i)), (5, .inl (nI r)), (0, .inr (.inr (some 129))), (1, .inl (nI k)), (2, .inl (nI (cmz nb bo 0 nf))), (3, .inl (nI (bo b 0))), (4, .inl (nI (enz nb bo b 0 nf)))], [.inl (3 : Int32), .inl (nI r), .inr (.inr (some 130)), .inr (.inr (some 113))], H)) (C := []) rfl trivial ?_
        refine mw_cIe (fun _ => rfl) (show mu_is H (some 130) 10 from (h.1.1.is rfl)) (h.getr (d := (d + 1)) e (j := 24) (by decide) rfl (nI r) (c := 3) (by decide)) ?_
        rw [show (tget (U.1 24) (nI r) 3) = (nI (oc r)) from ((congrArg (fun z => tget z (nI r) 3) (show U.1 24 = (U.1 24) from rfl)).trans (tget_nI (by omega))).trans (hoc r (by omega) hG).1]
        refine mw_go mu_g281 (k := 3) (f1 := (107, [(7, .inl (1 : Int32)), (6, .inl (nI i)), (5, .inl (nI r)), (0, .inr (.inr (some 129))), (1, .inl (nI k)), (2, .inl (nI (cmz nb bo 0 nf))), (3, .inl (nI (bo b 0))), (4, .inl (nI (enz nb bo b 0 nf)))], [.inr (.inr (mu_r H 129 1)), .inr (.inr (some 129)), .inl (nI (oc r)), .inr (.inr (some 113))], H)) (C := [mu_is H (some 129) 9]) rfl (show mu_is H (some 129) 9 from (h.1.1.is rfl)) ?_
        rw [(h.1.1.r (p := 129) (j := 1) (q := 130) rfl)]
        refine mw_go mu_g281 (k := 2) (f1 := (110, [(7, .inl (1 : Int32)), (6, .inl (nI i)), (5, .inl (nI r)), (0, .inr (.inr (some 129))), (1, .inl (nI k)), (2, .inl (nI (cmz nb bo 0 nf))), (3, .inl (nI (bo b 0))), (4, .inl (nI (enz nb bo b 0 nf)))], [.inl (1 : Int32), .inl (nI r), .inr (.inr (some 130)), .inr (.inr (some 129)), .inl (nI (oc r)), .inr (.inr (some 113))], H)) (C := []) rfl trivial ?_
        refine mw_cIe (fun _ => rfl) (show mu_is H (some 130) 10 from (h.1.1.is rfl)) (h.getr (d := (d + 1)) e (j := 24) (by decide) rfl (nI r) (c := 1) (by decide)) ?_
        rw [show (tget (U.1 24) (nI r) 1) = (tm r) from ((congrArg (fun z => tget z (nI r) 1) (show U.1 24 = (U.1 24) from rfl)).trans (tget_nI (by omega))).trans (htm r (by omega))]
        refine mw_cIe (fun _ => rfl) (show mu_is H (some 129) 9 from (h.1.1.is rfl)) (rl_index (d := (d + 1)) (dg := dg) (mk := tm r) h e hS hd) ?_
        have hix := ixz_lt (mk := tm r) (f := f) (dg := dg) (n := P) hdl
        obtain ⟨st, fc, hsa, hst, -, -, -, -⟩ := hSK.2.2.2.2.1 (oc r) (hoc r (by omega) hG).2.1 (hoc r (by omega) hG).2.2
        refine mw_cIe (fun _ => rfl) (show mu_is H (some 113) 11 from (h.1.1.is rfl)) (st_has (d := d) h e hsa hst (by have y := hpm r (by omega); omega)) ?_
        refine mw_if (P := (if S (oc r) (ixz (tm r) f dg P) = true then 1 else 0) = 0) (a := 122) (b := 124) (fun _ => rfl) trivial (fun h12 => ?_) (fun h12 => ?_)
        · -- 122: (if S (oc r) (ixz (tm r) f dg P) = true then 1 else 0) = 0
          have hbad : ¬ S (oc r) (ixz (tm r) f dg P) = true := fun y => absurd (h12) (by rw [if_pos y]; decide)
          refine mw_go mu_g281 (k := 1) (f1 := (123, [(7, .inl (1 : Int32)), (6, .inl (nI i)), (5, .inl (nI r)), (0, .inr (.inr (some 129))), (1, .inl (nI k)), (2, .inl (nI (cmz nb bo 0 nf))), (3, .inl (nI (bo b 0))), (4, .inl (nI (enz nb bo b 0 nf)))], [.inl (0 : Int32)], H)) (C := []) rfl trivial ?_
          exact mw_of (fun _ => mu_ret rfl (Or.inl rfl) ⟨(0 : Int32), H, rfl, Or.inr ⟨rfl, (fun y => hbad (y r (by omega) hrk hG)), rfl⟩⟩)
        · -- 124: not (if S (oc r) (ixz (tm r) f dg P) = true then 1 else 0) = 0
          have hcur : fin nb bo b 0 nf r → S (oc r) (ixz (tm r) f dg P) = true := fun _ => Decidable.byContradiction (fun y => h12 (if_neg y))
          refine mw_go mu_g281 (k := 2) (f1 := (128, [(7, .inl (1 : Int32)), (6, .inl (nI i)), (5, .inl (nI r)), (0, .inr (.inr (some 129))), (1, .inl (nI k)), (2, .inl (nI (cmz nb bo 0 nf))), (3, .inl (nI (bo b 0))), (4, .inl (nI (enz nb bo b 0 nf)))], [.inr (.inr (mu_r H 129 1))], H)) (C := [mu_is H (some 129) 9]) rfl (show mu_is H (some 129) 9 from (h.1.1.is rfl)) ?_
          rw [(h.1.1.r (p := 129) (j := 1) (q := 130) rfl)]
          refine mw_go mu_g281 (k := 2) (f1 := (131, [(7, .inl (1 : Int32)), (6, .inl (nI i)), (5, .inl (nI r)), (0, .inr (.inr (some 129))), (1, .inl (nI k)), (2, .inl (nI (cmz nb bo 0 nf))), (3, .inl (nI (bo b 0))), (4, .inl (nI (enz nb bo b 0 nf)))], [.inl (5 : Int32), .inl (nI r), .inr (.inr (some 130))], H)) (C := []) rfl trivial ?_
          refine mw_cIe (fun _ => rfl) (show mu_is H (some 130) 10 from (h.1.1.is rfl)) (h.getr (d := (d + 1)) e (j := 24) (by decide) rfl (nI r) (c := 5) (by decide)) ?_
          rw [show (tget (U.1 24) (nI r) 5) = (lsf lc k r) from ((congrArg (fun z => tget z (nI r) 5) (show U.1 24 = (U.1 24) from rfl)).trans (tget_nI (by omega))).trans ((hch.2 r (by omega) (by rw [hrk]; exact hk)).trans (by rw [hrk]))]
          refine mw_go mu_g281 (k := 2) (f1 := (139, [(6, .inl ((nI i) + 1)), (5, .inl (lsf lc k r)), (7, .inl (1 : Int32)), (0, .inr (.inr (some 129))), (1, .inl (nI k)), (2, .inl (nI (cmz nb bo 0 nf))), (3, .inl (nI (bo b 0))), (4, .inl (nI (enz nb bo b 0 nf)))], [], H)) (C := []) rfl trivial ?_
          rw [(show ((nI i) + 1) = (nI (i + 1)) from (nI_add i 1))]
          refine mw_go mu_g281 (k := 1) (f1 := (37, [(6, .inl (nI (i + 1))), (5, .inl (lsf lc k r)), (7, .inl (1 : Int32)), (0, .inr (.inr (some 129))), (1, .inl (nI k)), (2, .inl (nI (cmz nb bo 0 nf))), (3, .inl (nI (bo b 0))), (4, .inl (nI (enz nb bo b 0 nf)))], [], H)) (C := []) rfl trivial ?_
          exact mw_sub (by simp) (iha (i + 1, r) ⟨(show (i + 1) + r ≤ nf from (by omega)), (show ∀ ew, ew < nf → MLT tm lc S oc P f dg (fin nb bo b 0 nf) k r ew from (fun r2 hr2 g1 g2 g3 => by by_cases e1 : q ≤ r2; exact hM r2 hr2 e1 g2 g3; by_cases e2 : r2 = r; (rw [e2]; rw [e2] at g3; exact hcur g3); exact absurd g2 (hlast r2 (by omega) (by omega))))⟩ (by show nf - (i + 1) < nf - i; omega))
      · -- 60: not (nI r) < (nI (cmz nb bo 0 nf))
        have nh6 : ¬ r < (cmz nb bo 0 nf) := fun z => h6 (show nI r < nI (cmz nb bo 0 nf) from (nI_ltI (by omega) (by omega)).mpr z)
        refine mw_go mu_g281 (k := 2) (f1 := (63, [(6, .inl (nI i)), (5, .inl (nI r)), (0, .inr (.inr (some 129))), (1, .inl (nI k)), (2, .inl (nI (cmz nb bo 0 nf))), (3, .inl (nI (bo b 0))), (4, .inl (nI (enz nb bo b 0 nf)))], [.inl (nI (bo b 0)), .inl (nI r)], H)) (C := []) rfl trivial ?_
        refine mw_if (P := (nI r) < (nI (bo b 0))) (a := 77) (b := 66) (fun _ => rfl) trivial (fun h14 => ?_) (fun h14 => ?_)
        · -- 77: (nI r) < (nI (bo b 0))
          have nh14 : r < (bo b 0) := (nI_ltI (by omega) (by omega)).mp (show nI r < nI (bo b 0) from h14)
          refine mw_go mu_g281 (k := 1) (f1 := (78, [(6, .inl (nI i)), (5, .inl (nI r)), (0, .inr (.inr (some 129))), (1, .inl (nI k)), (2, .inl (nI (cmz nb bo 0 nf))), (3, .inl (nI (bo b 0))), (4, .inl (nI (enz nb bo b 0 nf)))], [.inl (0 : Int32)], H)) (C := []) rfl trivial ?_
          have hcur : fin nb bo b 0 nf r → S (oc r) (ixz (tm r) f dg P) = true := fun y => by rcases y with y | ⟨y1, y2, y3⟩ <;> omega
          refine mw_go mu_g281 (k := 2) (f1 := (82, [(7, .inl (0 : Int32)), (6, .inl (nI i)), (5, .inl (nI r)), (0, .inr (.inr (some 129))), (1, .inl (nI k)), (2, .inl (nI (cmz nb bo 0 nf))), (3, .inl (nI (bo b 0))), (4, .inl (nI (enz nb bo b 0 nf)))], [.inl (0 : Int32)], H)) (C := []) rfl trivial ?_
          refine mw_if (P := (0 : Int32) = 0) (a := 124) (b := 85) (fun _ => rfl) trivial (fun h15 => ?_) (fun h15 => absurd rfl h15)
          refine mw_go mu_g281 (k := 2) (f1 := (128, [(7, .inl (0 : Int32)), (6, .inl (nI i)), (5, .inl (nI r)), (0, .inr (.inr (some 129))), (1, .inl (nI k)), (2, .inl (nI (cmz nb bo 0 nf))), (3, .inl (nI (bo b 0))), (4, .inl (nI (enz nb bo b 0 nf)))], [.inr (.inr (mu_r H 129 1))], H)) (C := [mu_is H (some 129) 9]) rfl (show mu_is H (some 129) 9 from (h.1.1.is rfl)) ?_
          rw [(h.1.1.r (p := 129) (j := 1) (q := 130) rfl)]
          refine mw_go mu_g281 (k := 2) (f1 := (131, [(7, .inl (0 : Int32)), (6, .inl (nI i)), (5, .inl (nI r)), (0, .inr (.inr (some 129))), (1, .inl (nI k)), (2, .inl (nI (cmz nb bo 0 nf))), (3, .inl (nI (bo b 0))), (4, .inl (nI (enz nb bo b 0 nf)))], [.inl (5 : Int32), .inl (nI r), .inr (.inr (some 130))], H)) (C := []) rfl trivial ?_
          refine mw_cIe (fun _ => rfl) (show mu_is H (some 130) 10 from (h.1.1.is rfl)) (h.getr (d := (d + 1)) e (j := 24) (by decide) rfl (nI r) (c := 5) (by decide)) ?_
          rw [show (tget (U.1 24) (nI r) 5) = (lsf lc k r) from ((congrArg (fun z => tget z (nI r) 5) (show U.1 24 = (U.1 24) from rfl)).trans (tget_nI (by omega))).trans ((hch.2 r (by omega) (by rw [hrk]; exact hk)).trans (by rw [hrk]))]
          refine mw_go mu_g281 (k := 2) (f1 := (139, [(6, .inl ((nI i) + 1)), (5, .inl (lsf lc k r)), (7, .inl (0 : Int32)), (0, .inr (.inr (some 129))), (1, .inl (nI k)), (2, .inl (nI (cmz nb bo 0 nf))), (3, .inl (nI (bo b 0))), (4, .inl (nI (enz nb bo b 0 nf)))], [], H)) (C := []) rfl trivial ?_
          rw [(show ((nI i) + 1) = (nI (i + 1)) from (nI_add i 1))]
          refine mw_go mu_g281 (k := 1) (f1 := (37, [(6, .inl (nI (i + 1))), (5, .inl (lsf lc k r)), (7, .inl (0 : Int32)), (0, .inr (.inr (some 129))), (1, .inl (nI k)), (2, .inl (nI (cmz nb bo 0 nf))), (3, .inl (nI (bo b 0))), (4, .inl (nI (enz nb bo b 0 nf)))], [], H)) (C := []) rfl trivial ?_
          exact mw_sub (by simp) (iha (i + 1, r) ⟨(show (i + 1) + r ≤ nf from (by omega)), (show ∀ ew, ew < nf → MLT tm lc S oc P f dg (fin nb bo b 0 nf) k r ew from (fun r2 hr2 g1 g2 g3 => by by_cases e1 : q ≤ r2; exact hM r2 hr2 e1 g2 g3; by_cases e2 : r2 = r; (rw [e2]; rw [e2] at g3; exact hcur g3); exact absurd g2 (hlast r2 (by omega) (by omega))))⟩ (by show nf - (i + 1) < nf - i; omega))
        · -- 66: not (nI r) < (nI (bo b 0))
          have nh14 : ¬ r < (bo b 0) := fun z => h14 (show nI r < nI (bo b 0) from (nI_ltI (by omega) (by omega)).mpr z)
          refine mw_go mu_g281 (k := 2) (f1 := (70, [(6, .inl (nI i)), (5, .inl (nI r)), (0, .inr (.inr (some 129))), (1, .inl (nI k)), (2, .inl (nI (cmz nb bo 0 nf))), (3, .inl (nI (bo b 0))), (4, .inl (nI (enz nb bo b 0 nf)))], [.inl (nI (enz nb bo b 0 nf)), .inl (nI r)], H)) (C := []) rfl trivial ?_
          refine mw_if (P := (nI r) < (nI (enz nb bo b 0 nf))) (a := 73) (b := 77) (fun _ => rfl) trivial (fun h17 => ?_) (fun h17 => ?_)
          · -- 73: (nI r) < (nI (enz nb bo b 0 nf))
            have nh17 : r < (enz nb bo b 0 nf) := (nI_ltI (by omega) (by omega)).mp (show nI r < nI (enz nb bo b 0 nf) from h17)
            refine mw_go mu_g281 (k := 2) (f1 := (78, [(6, .inl (nI i)), (5, .inl (nI r)), (0, .inr (.inr (some 129))), (1, .inl (nI k)), (2, .inl (nI (cmz nb bo 0 nf))), (3, .inl (nI (bo b 0))), (4, .inl (nI (enz nb bo b 0 nf)))], [.inl (1 : Int32)], H)) (C := []) rfl trivial ?_
            have hG : fin nb bo b 0 nf r := by first | exact Or.inl (by omega) | exact Or.inr ⟨(by rcases Nat.eq_zero_or_pos b with y | y; (have := hb0 y; omega); exact y), by omega, by omega⟩
            refine mw_go mu_g281 (k := 2) (f1 := (82, [(7, .inl (1 : Int32)), (6, .inl (nI i)), (5, .inl (nI r)), (0, .inr (.inr (some 129))), (1, .inl (nI k)), (2, .inl (nI (cmz nb bo 0 nf))), (3, .inl (nI (bo b 0))), (4, .inl (nI (enz nb bo b 0 nf)))], [.inl (1 : Int32)], H)) (C := []) rfl trivial ?_
            refine mw_if (P := (1 : Int32) = 0) (a := 124) (b := 85) (fun _ => rfl) trivial (fun h18 => absurd h18 (by decide)) (fun h18 => ?_)
            refine mw_go mu_g281 (k := 2) (f1 := (89, [(7, .inl (1 : Int32)), (6, .inl (nI i)), (5, .inl (nI r)), (0, .inr (.inr (some 129))), (1, .inl (nI k)), (2, .inl (nI (cmz nb bo 0 nf))), (3, .inl (nI (bo b 0))), (4, .inl (nI (enz nb bo b 0 nf)))], [.inr (.inr (mu_r H 129 0))], H)) (C := [mu_is H (some 129) 9]) rfl (show mu_is H (some 129) 9 from (h.1.1.is rfl)) ?_
            rw [(h.1.1.r (p := 129) (j := 0) (q := 99) rfl)]
            refine mw_go mu_g281 (k := 1) (f1 := (92, [(7, .inl (1 : Int32)), (6, .inl (nI i)), (5, .inl (nI r)), (0, .inr (.inr (some 129))), (1, .inl (nI k)), (2, .inl (nI (cmz nb bo 0 nf))), (3, .inl (nI (bo b 0))), (4, .inl (nI (enz nb bo b 0 nf)))], [.inr (.inr (mu_r H 99 2))], H)) (C := [mu_is H (some 99) 13]) rfl (show mu_is H (some 99) 13 from (h.1.1.is rfl)) ?_
            rw [(h.1.1.r (p := 99) (j := 2) (q := 113) rfl)]
            refine mw_go mu_g281 (k := 2) (f1 := (96, [(7, .inl (1 : Int32)), (6, .inl (nI i)), (5, .inl (nI r)), (0, .inr (.inr (some 129))), (1, .inl (nI k)), (2, .inl (nI (cmz nb bo 0 nf))), (3, .inl (nI (bo b 0))), (4, .inl (nI (enz nb bo b 0 nf)))], [.inr (.inr (mu_r H 129 1)), .inr (.inr (some 113))], H)) (C := [mu_is H (some 129) 9]) rfl (show mu_is H (some 129) 9 from (h.1.1.is rfl)) ?_
            rw [(h.1.1.r (p := 129) (j := 1) (q := 130) rfl)]
            refine mw_go mu_g281 (k := 2) (f1 := (99, [(7, .inl (1 : Int32)), (6, .inl (nI i)), (5, .inl (nI r)), (0, .inr (.inr (some 129))), (1, .inl (nI k)), (2, .inl (nI (cmz nb bo 0 nf))), (3, .inl (nI (bo b 0))), (4, .inl (nI (enz nb bo b 0 nf)))], [.inl (3 : Int32), .inl (nI r), .inr (.inr (some 130)), .inr (.inr (some 113))], H)) (C := []) rfl trivial ?_
            refine mw_cIe (fun _ => rfl) (show mu_is H (some 130) 10 from (h.1.1.is rfl)) (h.getr (d := (d + 1)) e (j := 24) (by decide) rfl (nI r) (c := 3) (by decide)) ?_
            rw [show (tget (U.1 24) (nI r) 3) = (nI (oc r)) from ((congrArg (fun z => tget z (nI r) 3) (show U.1 24 = (U.1 24) from rfl)).trans (tget_nI (by omega))).trans (hoc r (by omega) hG).1]
            refine mw_go mu_g281 (k := 3) (f1 := (107, [(7, .inl (1 : Int32)), (6, .inl (nI i)), (5, .inl (nI r)), (0, .inr (.inr (some 129))), (1, .inl (nI k)), (2, .inl (nI (cmz nb bo 0 nf))), (3, .inl (nI (bo b 0))), (4, .inl (nI (enz nb bo b 0 nf)))], [.inr (.inr (mu_r H 129 1)), .inr (.inr (some 129)), .inl (nI (oc r)), .inr (.inr (some 113))], H)) (C := [mu_is H (some 129) 9]) rfl (show mu_is H (some 129) 9 from (h.1.1.is rfl)) ?_
            rw [(h.1.1.r (p := 129) (j := 1) (q := 130) rfl)]
            refine mw_go mu_g281 (k := 2) (f1 := (110, [(7, .inl (1 : Int32)), (6, .inl (nI i)), (5, .inl (nI r)), (0, .inr (.inr (some 129))), (1, .inl (nI k)), (2, .inl (nI (cmz nb bo 0 nf))), (3, .inl (nI (bo b 0))), (4, .inl (nI (enz nb bo b 0 nf)))], [.inl (1 : Int32), .inl (nI r), .inr (.inr (some 130)), .inr (.inr (some 129)), .inl (nI (oc r)), .inr (.inr (some 113))], H)) (C := []) rfl trivial ?_
            refine mw_cIe (fun _ => rfl) (show mu_is H (some 130) 10 from (h.1.1.is rfl)) (h.getr (d := (d + 1)) e (j := 24) (by decide) rfl (nI r) (c := 1) (by decide)) ?_
            rw [show (tget (U.1 24) (nI r) 1) = (tm r) from ((congrArg (fun z => tget z (nI r) 1) (show U.1 24 = (U.1 24) from rfl)).trans (tget_nI (by omega))).trans (htm r (by omega))]
            refine mw_cIe (fun _ => rfl) (show mu_is H (some 129) 9 from (h.1.1.is rfl)) (rl_index (d := (d + 1)) (dg := dg) (mk := tm r) h e hS hd) ?_
            have hix := ixz_lt (mk := tm r) (f := f) (dg := dg) (n := P) hdl
            obtain ⟨st, fc, hsa, hst, -, -, -, -⟩ := hSK.2.2.2.2.1 (oc r) (hoc r (by omega) hG).2.1 (hoc r (by omega) hG).2.2
            refine mw_cIe (fun _ => rfl) (show mu_is H (some 113) 11 from (h.1.1.is rfl)) (st_has (d := d) h e hsa hst (by have y := hpm r (by omega); omega)) ?_
            refine mw_if (P := (if S (oc r) (ixz (tm r) f dg P) = true then 1 else 0) = 0) (a := 122) (b := 124) (fun _ => rfl) trivial (fun h23 => ?_) (fun h23 => ?_)
            · -- 122: (if S (oc r) (ixz (tm r) f dg P) = true then 1 else 0) = 0
              have hbad : ¬ S (oc r) (ixz (tm r) f dg P) = true := fun y => absurd (h23) (by rw [if_pos y]; decide)
              refine mw_go mu_g281 (k := 1) (f1 := (123, [(7, .inl (1 : Int32)), (6, .inl (nI i)), (5, .inl (nI r)), (0, .inr (.inr (some 129))), (1, .inl (nI k)), (2, .inl (nI (cmz nb bo 0 nf))), (3, .inl (nI (bo b 0))), (4, .inl (nI (enz nb bo b 0 nf)))], [.inl (0 : Int32)], H)) (C := []) rfl trivial ?_
              exact mw_of (fun _ => mu_ret rfl (Or.inl rfl) ⟨(0 : Int32), H, rfl, Or.inr ⟨rfl, (fun y => hbad (y r (by omega) hrk hG)), rfl⟩⟩)
            · -- 124: not (if S (oc r) (ixz (tm r) f dg P) = true then 1 else 0) = 0
              have hcur : fin nb bo b 0 nf r → S (oc r) (ixz (tm r) f dg P) = true := fun _ => Decidable.byContradiction (fun y => h23 (if_neg y))
              refine mw_go mu_g281 (k := 2) (f1 := (128, [(7, .inl (1 : Int32)), (6, .inl (nI i)), (5, .inl (nI r)), (0, .inr (.inr (some 129))), (1, .inl (nI k)), (2, .inl (nI (cmz nb bo 0 nf))), (3, .inl (nI (bo b 0))), (4, .inl (nI (enz nb bo b 0 nf)))], [.inr (.inr (mu_r H 129 1))], H)) (C := [mu_is H (some 129) 9]) rfl (show mu_is H (some 129) 9 from (h.1.1.is rfl)) ?_
              rw [(h.1.1.r (p := 129) (j := 1) (q := 130) rfl)]
              refine mw_go mu_g281 (k := 2) (f1 := (131, [(7, .inl (1 : Int32)), (6, .inl (nI i)), (5, .inl (nI r)), (0, .inr (.inr (some 129))), (1, .inl (nI k)), (2, .inl (nI (cmz nb bo 0 nf))), (3, .inl (nI (bo b 0))), (4, .inl (nI (enz nb bo b 0 nf)))], [.inl (5 : Int32), .inl (nI r), .inr (.inr (some 130))], H)) (C := []) rfl trivial ?_
              refine mw_cIe (fun _ => rfl) (show mu_is H (some 130) 10 from (h.1.1.is rfl)) (h.getr (d := (d + 1)) e (j := 24) (by decide) rfl (nI r) (c := 5) (by decide)) ?_
              rw [show (tget (U.1 24) (nI r) 5) = (lsf lc k r) from ((congrArg (fun z => tget z (nI r) 5) (show U.1 24 = (U.1 24) from rfl)).trans (tget_nI (by omega))).trans ((hch.2 r (by omega) (by rw [hrk]; exact hk)).trans (by rw [hrk]))]
              refine mw_go mu_g281 (k := 2) (f1 := (139, [(6, .inl ((nI i) + 1)), (5, .inl (lsf lc k r)), (7, .inl (1 : Int32)), (0, .inr (.inr (some 129))), (1, .inl (nI k)), (2, .inl (nI (cmz nb bo 0 nf))), (3, .inl (nI (bo b 0))), (4, .inl (nI (enz nb bo b 0 nf)))], [], H)) (C := []) rfl trivial ?_
              rw [(show ((nI i) + 1) = (nI (i + 1)) from (nI_add i 1))]
              refine mw_go mu_g281 (k := 1) (f1 := (37, [(6, .inl (nI (i + 1))), (5, .inl (lsf lc k r)), (7, .inl (1 : Int32)), (0, .inr (.inr (some 129))), (1, .inl (nI k)), (2, .inl (nI (cmz nb bo 0 nf))), (3, .inl (nI (bo b 0))), (4, .inl (nI (enz nb bo b 0 nf)))], [], H)) (C := []) rfl trivial ?_
              exact mw_sub (by simp) (iha (i + 1, r) ⟨(show (i + 1) + r ≤ nf from (by omega)), (show ∀ ew, ew < nf → MLT tm lc S oc P f dg (fin nb bo b 0 nf) k r ew from (fun r2 hr2 g1 g2 g3 => by by_cases e1 : q ≤ r2; exact hM r2 hr2 e1 g2 g3; by_cases e2 : r2 = r; (rw [e2]; rw [e2] at g3; exact hcur g3); exact absurd g2 (hlast r2 (by omega) (by omega))))⟩ (by show nf - (i + 1) < nf - i; omega))
          · -- 77: not (nI r) < (nI (enz nb bo b 0 nf))
            have nh17 : ¬ r < (enz nb bo b 0 nf) := fun z => h17 (show nI r < nI (enz nb bo b 0 nf) from (nI_ltI (by omega) (by omega)).mpr z)
            refine mw_go mu_g281 (k := 1) (f1 := (78, [(6, .inl (nI i)), (5, .inl (nI r)), (0, .inr (.inr (some 129))), (1, .inl (nI k)), (2, .inl (nI (cmz nb bo 0 nf))), (3, .inl (nI (bo b 0))), (4, .inl (nI (enz nb bo b 0 nf)))], [.inl (0 : Int32)], H)) (C := []) rfl trivial ?_
            have hcur : fin nb bo b 0 nf r → S (oc r) (ixz (tm r) f dg P) = true := fun y => by rcases y with y | ⟨y1, y2, y3⟩ <;> omega
            refine mw_go mu_g281 (k := 2) (f1 := (82, [(7, .inl (0 : Int32)), (6, .inl (nI i)), (5, .inl (nI r)), (0, .inr (.inr (some 129))), (1, .inl (nI k)), (2, .inl (nI (cmz nb bo 0 nf))), (3, .inl (nI (bo b 0))), (4, .inl (nI (enz nb bo b 0 nf)))], [.inl (0 : Int32)], H)) (C := []) rfl trivial ?_
            refine mw_if (P := (0 : Int32) = 0) (a := 124) (b := 85) (fun _ => rfl) trivial (fun h25 => ?_) (fun h25 => absurd rfl h25)
            refine mw_go mu_g281 (k := 2) (f1 := (128, [(7, .inl (0 : Int32)), (6, .inl (nI i)), (5, .inl (nI r)), (0, .inr (.inr (some 129))), (1, .inl (nI k)), (2, .inl (nI (cmz nb bo 0 nf))), (3, .inl (nI (bo b 0))), (4, .inl (nI (enz nb bo b 0 nf)))], [.inr (.inr (mu_r H 129 1))], H)) (C := [mu_is H (some 129) 9]) rfl (show mu_is H (some 129) 9 from (h.1.1.is rfl)) ?_
            rw [(h.1.1.r (p := 129) (j := 1) (q := 130) rfl)]
            refine mw_go mu_g281 (k := 2) (f1 := (131, [(7, .inl (0 : Int32)), (6, .inl (nI i)), (5, .inl (nI r)), (0, .inr (.inr (some 129))), (1, .inl (nI k)), (2, .inl (nI (cmz nb bo 0 nf))), (3, .inl (nI (bo b 0))), (4, .inl (nI (enz nb bo b 0 nf)))], [.inl (5 : Int32), .inl (nI r), .inr (.inr (some 130))], H)) (C := []) rfl trivial ?_
            refine mw_cIe (fun _ => rfl) (show mu_is H (some 130) 10 from (h.1.1.is rfl)) (h.getr (d := (d + 1)) e (j := 24) (by decide) rfl (nI r) (c := 5) (by decide)) ?_
            rw [show (tget (U.1 24) (nI r) 5) = (lsf lc k r) from ((congrArg (fun z => tget z (nI r) 5) (show U.1 24 = (U.1 24) from rfl)).trans (tget_nI (by omega))).trans ((hch.2 r (by omega) (by rw [hrk]; exact hk)).trans (by rw [hrk]))]
            refine mw_go mu_g281 (k := 2) (f1 := (139, [(6, .inl ((nI i) + 1)), (5, .inl (lsf lc k r)), (7, .inl (0 : Int32)), (0, .inr (.inr (some 129))), (1, .inl (nI k)), (2, .inl (nI (cmz nb bo 0 nf))), (3, .inl (nI (bo b 0))), (4, .inl (nI (enz nb bo b 0 nf)))], [], H)) (C := []) rfl trivial ?_
            rw [(show ((nI i) + 1) = (nI (i + 1)) from (nI_add i 1))]
            refine mw_go mu_g281 (k := 1) (f1 := (37, [(6, .inl (nI (i + 1))), (5, .inl (lsf lc k r)), (7, .inl (0 : Int32)), (0, .inr (.inr (some 129))), (1, .inl (nI k)), (2, .inl (nI (cmz nb bo 0 nf))), (3, .inl (nI (bo b 0))), (4, .inl (nI (enz nb bo b 0 nf)))], [], H)) (C := []) rfl trivial ?_
            exact mw_sub (by simp) (iha (i + 1, r) ⟨(show (i + 1) + r ≤ nf from (by omega)), (show ∀ ew, ew < nf → MLT tm lc S oc P f dg (fin nb bo b 0 nf) k r ew from (fun r2 hr2 g1 g2 g3 => by by_cases e1 : q ≤ r2; exact hM r2 hr2 e1 g2 g3; by_cases e2 : r2 = r; (rw [e2]; rw [e2] at g3; exact hcur g3); exact absurd g2 (hlast r2 (by omega) (by omega))))⟩ (by show nf - (i + 1) < nf - i; omega))
  · -- 142: not (nI i) < (nI nf)
    have nh4 : ¬ i < nf := fun z => h4 (show nI i < nI nf from (nI_ltI (by omega) (by omega)).mpr z)
    refine mw_go mu_g281 (k := 1) (f1 := (143, [(6, .inl (nI i)), (5, .inl (lsf lc k q)), (0, .inr (.inr (some 129))), (1, .inl (nI k)), (2, .inl (nI (cmz nb bo 0 nf))), (3, .inl (nI (bo b 0))), (4, .inl (nI (enz nb bo b 0 nf)))], [.inl (1 : Int32)], H)) (C := []) rfl trivial ?_
    exact mw_of (fun _ => mu_ret rfl (Or.inr rfl) ⟨(1 : Int32), H, rfl, Or.inl ⟨rfl, (fun r hr g2 g3 => (by by_cases e1 : q ≤ r; exact hM r hr e1 g2 g3; omega)), rfl⟩⟩)
end IsLeft
