/-! RELATION: bits that are laid out, rows that are listed -/
section Rel1
variable {H : mu_H} {U V : Ud} {m d id st P bf bt a b n w t k N F0 row : Nat} {C : Nat → Nat} {fc : Nat → Int64} {S : Nat → Bool} {ls f dg : Nat → Nat} {mk : Int32} {L : Nat → Int64}
/-- outside of these words bits are 0 -/
def BZ (U : Ud) (bf bt : Nat) : Prop := (U.2.1 129 19 = nI bf ∧ U.2.1 129 20 = nI bt ∧ bf ≤ bt ∧ bt ≤ 256) ∧ ∀ w, w < 256 → ¬ (bf ≤ w ∧ w < bt) → U.2.2.2.2.1 146 w = 0
theorem BZ.clear (h : BZ U bf bt) (hab : a ≤ b) (hb : b ≤ 256) : BZ (upI (upI (upM U 146 bf (fun _ => (0 : Int64)) (bt - bf)) 129 19 (nI a)) 129 20 (nI b)) a b ∧ ∀ w, w < 256 → (upI (upI (upM U 146 bf (fun _ => (0 : Int64)) (bt - bf)) 129 19 (nI a)) 129 20 (nI b)).2.2.2.2.1 146 w = 0 := by
  have key : ∀ w, w < 256 → (upI (upI (upM U 146 bf (fun _ => (0 : Int64)) (bt - bf)) 129 19 (nI a)) 129 20 (nI b)).2.2.2.2.1 146 w = 0 := fun w hw => by
    show (if 146 = 146 ∧ bf ≤ w ∧ w < bf + (bt - bf) then (0 : Int64) else U.2.2.2.2.1 146 w) = 0
    by_cases e : bf ≤ w ∧ w < bt
    · exact if_pos ⟨rfl, e.1, by omega⟩
    · rw [if_neg (fun y => e ⟨y.2.1, by omega⟩)]
      exact h.2 w hw e
  exact ⟨⟨⟨rfl, rfl, hab, hb⟩, fun w hw _ => key w hw⟩, key⟩
theorem w_zero {x : Int64} (h : ∀ q, q < 64 → btz x q = false) : x = 0 := btz_ext (fun b hb => by rw [h b hb, btz_0])
theorem bts_zero (h : ∀ w, w < 256 → L w = 0) (ht : t < 16384) : bts L t = false := by
  unfold bts
  rw [h _ (by omega), btz_0]
theorem BZ.of (h1 : V.2.1 129 19 = nI bf) (h2 : V.2.1 129 20 = nI bt) (h3 : bf ≤ bt) (h4 : bt ≤ 256) (hs : ∀ t, t < 16384 → bts (V.2.2.2.2.1 146) t = true → bf ≤ t / 64 ∧ t / 64 < bt) : BZ V bf bt := by
  refine ⟨⟨h1, h2, h3, h4⟩, fun w hw hn => w_zero (fun q hq => ?_)⟩
  cases hb : btz (V.2.2.2.2.1 146 w) q
  · rfl
  · have := hs (64 * w + q) (by omega) (by unfold bts; rw [show (64 * w + q) / 64 = w by omega, show (64 * w + q) % 64 = q by omega]; exact hb)
    exact absurd ⟨by omega, by omega⟩ hn
/-- a number over the places of a mask -/
def ixz (mk : Int32) (f dg : Nat → Nat) : Nat → Nat
  | 0 => 0
  | n + 1 => if mb mk n = 0 then ixz mk f dg n else ixz mk f dg n * f n + dg n
theorem lay_s (hx : ls n < 16384) (hB : ∀ t, t < 16384 → (bts L t = true ↔ lmz ls n t = true)) (t : Nat) (ht : t < 16384) : bts (fun q => if q = ls n / 64 then L (ls n / 64) ||| ((1 : Int64) <<< ((nI (ls n)).toInt64 &&& 63)) else L q) t = true ↔ lmz ls (n + 1) t = true := by
  show btz (if t / 64 = ls n / 64 then L (ls n / 64) ||| ((1 : Int64) <<< ((nI (ls n)).toInt64 &&& 63)) else L (t / 64)) (t % 64) = true ↔ (lmz ls n t || decide (ls n = t)) = true
  rw [Bool.or_eq_true, decide_eq_true_iff, ← hB t ht]
  unfold bts
  by_cases e : t / 64 = ls n / 64
  · rw [if_pos e, e, btz_one1 (by omega) (Nat.mod_lt _ (by decide))]
    constructor
    · rintro (h | h)
      · exact Or.inl h
      · exact Or.inr (by omega)
    · rintro (h | h)
      · exact Or.inl h
      · exact Or.inr (by omega)
  · rw [if_neg e]
    constructor
    · exact Or.inl
    · rintro (h | h)
      · exact h
      · exact absurd (by rw [h]) e
theorem st_fx0 (h : um m H) (e : ud m H = U) (hs : sat U id st fc) (hz : stz fc st S) (hS : ∀ x, S x = true → x < 16384) (hf : hfm fc st = 0) : mu_TI (mu_D (d + 2)) 244 [.inr (.inr (some 113)), .inl (nI id)] H (fun x H1 => (∃ v, x = nI v ∧ v ≤ 255 ∧ (∀ t, S t = true → v ≤ t / 64) ∧ (v = 0 ∨ ∃ t, S t = true)) ∧ H1 = H) := by
  obtain ⟨⟨hi1, hi2⟩, hst, hst2, hch⟩ := (show sat U id st fc from hs)
  obtain ⟨hz1, hz2, hz3, hz4, hz5⟩ := hz
  obtain ⟨hm1, hm2, hm3⟩ := hz3 hf
  refine mu_meth (M := mu_m244) rfl rfl ?_
  refine mw_ht (mu_fn_of (show [0, 1].Nodup by decide)) ?_
  refine mw_go mu_g244 (k := 2) (f1 := (2, [(0, .inr (.inr (some 113))), (1, .inl (nI id))], [.inl (nI id), .inr (.inr (some 113))], H)) (C := []) rfl trivial ?_
  refine mw_cIe (fun _ => rfl) (show mu_is H (some 113) 11 from (h.1.1.is rfl)) (st_form (d := d) h e hs) ?_
  rw [show nI (hfm fc st) = (0 : Int32) from congrArg nI hf]
  refine mw_go mu_g244 (k := 1) (f1 := (6, [(0, .inr (.inr (some 113))), (1, .inl (nI id))], [.inl (2 : Int32), .inl (0 : Int32)], H)) (C := []) rfl trivial ?_
  refine mw_if (P := (0 : Int32) = (2 : Int32)) (a := 17) (b := 9) (fun _ => rfl) trivial (fun h2 => absurd h2 (by decide)) (fun h2 => ?_)
  refine mw_go mu_g244 (k := 2) (f1 := (11, [(0, .inr (.inr (some 113))), (1, .inl (nI id))], [.inl (nI id), .inr (.inr (some 113))], H)) (C := []) rfl trivial ?_
  refine mw_cIe (fun _ => rfl) (show mu_is H (some 113) 11 from (h.1.1.is rfl)) (st_parts (d := d) h e hs) ?_
  rw [show nI (hpt fc st) = nI (hsz fc st) from congrArg nI (by unfold hpt; rw [hf]; rfl)]
  have kl := hln_lt (fc := fc) (st := st)
  have kz := hsz_lt (fc := fc) (st := st)
  refine mw_if (P := (nI (hsz fc st)) = 0) (a := 17) (b := 21) (fun _ => rfl) trivial (fun h4 => ?_) (fun h4 => ?_)
  · -- 17: (nI (hsz fc st)) = 0
    have nh4 : (hsz fc st) = 0 := (nI_eq (by omega) (by omega)).mp (show nI (hsz fc st) = nI 0 from h4)
    refine mw_go mu_g244 (k := 2) (f1 := (30, [(0, .inr (.inr (some 113))), (1, .inl (nI id))], [.inl (0 : Int32)], H)) (C := []) rfl trivial ?_
    exact mw_of (fun _ => mu_ret rfl trivial ⟨(0 : Int32), H, rfl, ⟨0, rfl, by omega, fun _ _ => Nat.zero_le _, Or.inl rfl⟩, rfl⟩)
  · -- 21: not (nI (hsz fc st)) = 0
    have nh4 : ¬ (hsz fc st) = 0 := fun z => h4 (show nI (hsz fc st) = nI 0 from (nI_eq (by omega) (by omega)).mpr z)
    refine mw_go mu_g244 (k := 3) (f1 := (24, [(0, .inr (.inr (some 113))), (1, .inl (nI id))], [.inl (0 : Int32), .inl (nI id), .inr (.inr (some 113))], H)) (C := []) rfl trivial ?_
    refine mw_cIe (fun _ => rfl) (show mu_is H (some 113) 11 from (h.1.1.is rfl)) (st_num (d := d) (p := 0) h e hs (by omega) (by omega)) ?_
    have kn5 : nmzU fc st 0 < 16384 := hS _ ((hm3.2 _).mpr ⟨0, by omega, by rw [show 1 * (0) = 0 by omega]; exact Nat.le_refl _, by rw [show 1 * (0) + 1 - 1 = 0 by omega]; exact Nat.le_refl _⟩)
    refine mw_go mu_g244 (k := 2) (f1 := (30, [(0, .inr (.inr (some 113))), (1, .inl (nI id))], [.inl ((nI (nmzU fc st 0)) >>> ((6 : Int32) &&& 31))], H)) (C := []) rfl trivial ?_
    rw [(show ((nI (nmzU fc st 0)) >>> ((6 : Int32) &&& 31)) = (nI ((nmzU fc st 0) / 64)) from (nI_shr6 (a := nmzU fc st 0) (by omega)))]
    exact mw_of (fun _ => mu_ret rfl trivial ⟨(nI ((nmzU fc st 0) / 64)), H, rfl, ⟨_, rfl, by omega, fun t k => fw_le hm3 k, Or.inr ⟨nmzU fc st 0, (hm3.2 _).mpr ⟨0, by omega, Nat.le_refl _, Nat.le_refl _⟩⟩⟩, rfl⟩)
theorem st_fx1 (h : um m H) (e : ud m H = U) (hs : sat U id st fc) (hz : stz fc st S) (hS : ∀ x, S x = true → x < 16384) (hf : hfm fc st = 1) : mu_TI (mu_D (d + 2)) 244 [.inr (.inr (some 113)), .inl (nI id)] H (fun x H1 => (∃ v, x = nI v ∧ v ≤ 255 ∧ (∀ t, S t = true → v ≤ t / 64) ∧ (v = 0 ∨ ∃ t, S t = true)) ∧ H1 = H) := by
  obtain ⟨⟨hi1, hi2⟩, hst, hst2, hch⟩ := (show sat U id st fc from hs)
  obtain ⟨hz1, hz2, hz3, hz4, hz5⟩ := hz
  obtain ⟨hm2, hm3⟩ := hz4 hf
  refine mu_meth (M := mu_m244) rfl rfl ?_
  refine mw_ht (mu_fn_of (show [0, 1].Nodup by decide)) ?_
  refine mw_go mu_g244 (k := 2) (f1 := (2, [(0, .inr (.inr (some 113))), (1, .inl (nI id))], [.inl (nI id), .inr (.inr (some 113))], H)) (C := []) rfl trivial ?_
  refine mw_cIe (fun _ => rfl) (show mu_is H (some 113) 11 from (h.1.1.is rfl)) (st_form (d := d) h e hs) ?_
  rw [show nI (hfm fc st) = (1 : Int32) from congrArg nI hf]
  refine mw_go mu_g244 (k := 1) (f1 := (6, [(0, .inr (.inr (some 113))), (1, .inl (nI id))], [.inl (2 : Int32), .inl (1 : Int32)], H)) (C := []) rfl trivial ?_
  refine mw_if (P := (1 : Int32) = (2 : Int32)) (a := 17) (b := 9) (fun _ => rfl) trivial (fun h2 => absurd h2 (by decide)) (fun h2 => ?_)
  refine mw_go mu_g244 (k := 2) (f1 := (11, [(0, .inr (.inr (some 113))), (1, .inl (nI id))], [.inl (nI id), .inr (.inr (some 113))], H)) (C := []) rfl trivial ?_
  refine mw_cIe (fun _ => rfl) (show mu_is H (some 113) 11 from (h.1.1.is rfl)) (st_parts (d := d) h e hs) ?_
  rw [show nI (hpt fc st) = nI (2 * hln fc st) from congrArg nI (by unfold hpt; rw [hf]; rfl)]
  have kl := hln_lt (fc := fc) (st := st)
  have kz := hsz_lt (fc := fc) (st := st)
  refine mw_if (P := (nI (2 * hln fc st)) = 0) (a := 17) (b := 21) (fun _ => rfl) trivial (fun h4 => ?_) (fun h4 => ?_)
  · -- 17: (nI (2 * hln fc st)) = 0
    have nh4 : (2 * hln fc st) = 0 := (nI_eq (by omega) (by omega)).mp (show nI (2 * hln fc st) = nI 0 from h4)
    refine mw_go mu_g244 (k := 2) (f1 := (30, [(0, .inr (.inr (some 113))), (1, .inl (nI id))], [.inl (0 : Int32)], H)) (C := []) rfl trivial ?_
    exact mw_of (fun _ => mu_ret rfl trivial ⟨(0 : Int32), H, rfl, ⟨0, rfl, by omega, fun _ _ => Nat.zero_le _, Or.inl rfl⟩, rfl⟩)
  · -- 21: not (nI (2 * hln fc st)) = 0
    have nh4 : ¬ (2 * hln fc st) = 0 := fun z => h4 (show nI (2 * hln fc st) = nI 0 from (nI_eq (by omega) (by omega)).mpr z)
    refine mw_go mu_g244 (k := 3) (f1 := (24, [(0, .inr (.inr (some 113))), (1, .inl (nI id))], [.inl (0 : Int32), .inl (nI id), .inr (.inr (some 113))], H)) (C := []) rfl trivial ?_
    refine mw_cIe (fun _ => rfl) (show mu_is H (some 113) 11 from (h.1.1.is rfl)) (st_num (d := d) (p := 0) h e hs (by omega) (by omega)) ?_
    have kn5 : nmzU fc st 0 < 16384 := hS _ ((hm3.2 _).mpr ⟨0, by omega, Nat.le_refl _, hm2 0 (by omega)⟩)
    refine mw_go mu_g244 (k := 2) (f1 := (30, [(0, .inr (.inr (some 113))), (1, .inl (nI id))], [.inl ((nI (nmzU fc st 0)) >>> ((6 : Int32) &&& 31))], H)) (C := []) rfl trivial ?_
    rw [(show ((nI (nmzU fc st 0)) >>> ((6 : Int32) &&& 31)) = (nI ((nmzU fc st 0) / 64)) from (nI_shr6 (a := nmzU fc st 0) (by omega)))]
    exact mw_of (fun _ => mu_ret rfl trivial ⟨(nI ((nmzU fc st 0) / 64)), H, rfl, ⟨_, rfl, by omega, fun t k => fw_le hm3 k, Or.inr ⟨nmzU fc st 0, (hm3.2 _).mpr ⟨0, by omega, Nat.le_refl _, hm2 0 (by omega)⟩⟩⟩, rfl⟩)
theorem st_fx2 (h : um m H) (e : ud m H = U) (hs : sat U id st fc) (hz : stz fc st S) (hS : ∀ x, S x = true → x < 16384) (hf : hfm fc st = 2) : mu_TI (mu_D (d + 2)) 244 [.inr (.inr (some 113)), .inl (nI id)] H (fun x H1 => (∃ v, x = nI v ∧ v ≤ 255 ∧ (∀ t, S t = true → v ≤ t / 64) ∧ (v = 0 ∨ ∃ t, S t = true)) ∧ H1 = H) := by
  obtain ⟨⟨hi1, hi2⟩, hst, hst2, hch⟩ := (show sat U id st fc from hs)
  obtain ⟨hz1, hz2, hz3, hz4, hz5⟩ := hz
  have hm3 := hz5 hf
  refine mu_meth (M := mu_m244) rfl rfl ?_
  refine mw_ht (mu_fn_of (show [0, 1].Nodup by decide)) ?_
  refine mw_go mu_g244 (k := 2) (f1 := (2, [(0, .inr (.inr (some 113))), (1, .inl (nI id))], [.inl (nI id), .inr (.inr (some 113))], H)) (C := []) rfl trivial ?_
  refine mw_cIe (fun _ => rfl) (show mu_is H (some 113) 11 from (h.1.1.is rfl)) (st_form (d := d) h e hs) ?_
  rw [show nI (hfm fc st) = (2 : Int32) from congrArg nI hf]
  refine mw_go mu_g244 (k := 1) (f1 := (6, [(0, .inr (.inr (some 113))), (1, .inl (nI id))], [.inl (2 : Int32), .inl (2 : Int32)], H)) (C := []) rfl trivial ?_
  refine mw_if (P := (2 : Int32) = (2 : Int32)) (a := 17) (b := 9) (fun _ => rfl) trivial (fun h2 => ?_) (fun h2 => absurd (by decide) h2)
  refine mw_go mu_g244 (k := 2) (f1 := (30, [(0, .inr (.inr (some 113))), (1, .inl (nI id))], [.inl (0 : Int32)], H)) (C := []) rfl trivial ?_
  exact mw_of (fun _ => mu_ret rfl trivial ⟨(0 : Int32), H, rfl, ⟨0, rfl, by omega, fun _ _ => Nat.zero_le _, Or.inl rfl⟩, rfl⟩)
theorem st_fx (h : um m H) (e : ud m H = U) (hs : sat U id st fc) (hz : stz fc st S) (hS : ∀ x, S x = true → x < 16384) : mu_TI (mu_D (d + 2)) 244 [.inr (.inr (some 113)), .inl (nI id)] H (fun x H1 => (∃ v, x = nI v ∧ v ≤ 255 ∧ (∀ t, S t = true → v ≤ t / 64) ∧ (v = 0 ∨ ∃ t, S t = true)) ∧ H1 = H) := by
  have kf := hz.1
  by_cases f0 : hfm fc st = 0
  · exact st_fx0 h e hs hz hS f0
  · by_cases f1 : hfm fc st = 1
    · exact st_fx1 h e hs hz hS f1
    · exact st_fx2 h e hs hz hS (by omega)
/-- PathProver$Relation.clearBits(II)V -/
abbrev mu_m274 : ev_M := (3, none, [], ev_b274)
theorem mu_g274 : mu_good mu_m274 := mu_goodk ev_k274
theorem rl_clear (h : um m H) (e : ud m H = U) (hz : BZ U bf bt) : mu_TV (mu_D (d + 3)) 274 [.inr (.inr (some 129)), .inl (nI a), .inl (nI b)] H (fun H1 => um m H1 ∧ ur m C H H1 ∧ ud m H1 = (upI (upI (upM U 146 bf (fun _ => (0 : Int64)) (bt - bf)) 129 19 (nI a)) 129 20 (nI b))) := by
  have hz3 := hz.1.2.2
  refine mu_meth (M := mu_m274) rfl rfl ?_
  refine mw_ht (mu_fn_of (show [0, 1, 2].Nodup by decide)) ?_
  refine mw_go mu_g274 (k := 2) (f1 := (4, [(0, .inr (.inr (some 129))), (1, .inl (nI a)), (2, .inl (nI b))], [.inr (.inr (mu_r H 129 18))], H)) (C := [mu_is H (some 129) 9]) rfl (show mu_is H (some 129) 9 from (h.1.1.is rfl)) ?_
  rw [(h.1.1.r (p := 129) (j := 18) (q := 146) rfl)]
  refine mw_go mu_g274 (k := 2) (f1 := (8, [(0, .inr (.inr (some 129))), (1, .inl (nI a)), (2, .inl (nI b))], [.inl (mu_i H 129 19), .inr (.inr (some 146))], H)) (C := [mu_is H (some 129) 9]) rfl (show mu_is H (some 129) 9 from (h.1.1.is rfl)) ?_
  rw [(show mu_i H 129 19 = (nI bf) from (ud_i (U := U) (m := m) (P := 129) (j := 19) e rfl).trans hz.1.1)]
  refine mw_go mu_g274 (k := 2) (f1 := (12, [(0, .inr (.inr (some 129))), (1, .inl (nI a)), (2, .inl (nI b))], [.inl (mu_i H 129 20), .inl (nI bf), .inr (.inr (some 146))], H)) (C := [mu_is H (some 129) 9]) rfl (show mu_is H (some 129) 9 from (h.1.1.is rfl)) ?_
  rw [(show mu_i H 129 20 = (nI bt) from (ud_i (U := U) (m := m) (P := 129) (j := 20) e rfl).trans hz.1.2.1)]
  refine mw_go mu_g274 (k := 1) (f1 := (13, [(0, .inr (.inr (some 129))), (1, .inl (nI a)), (2, .inl (nI b))], [.inr (.inl (0 : Int64)), .inl (nI bt), .inl (nI bf), .inr (.inr (some 146))], H)) (C := []) rfl trivial ?_
  refine mw_cV (fun _ => rfl) trivial ((ar_fillL_ok (d := d) (v := (0 : Int64)) (a := bf) (b := bt) ((h.1.1.a (p := 146) (x := (102, 256)) rfl).1) (by omega) (by rw [show mu_n H (mu_p (some 146)) = 256 from (h.1.1.a (p := 146) (x := (102, 256)) rfl).2]; omega) (by rw [show mu_n H (mu_p (some 146)) = 256 from (h.1.1.a (p := 146) (x := (102, 256)) rfl).2]; decide)).imp (fun Hx qx => show um m Hx ∧ ur m C H Hx ∧ ud m Hx = (upM U 146 bf (fun _ => (0 : Int64)) (bt - bf)) by rw [qx]; exact h.fL (C := C) e rfl)) (fun Q1 q1 => ?_)
  obtain ⟨u1, r1, d1⟩ := q1
  have ht1 : ur m C H Q1 := (ur.refl m C H).trans r1
  refine mw_go mu_g274 (k := 3) (f1 := (21, [(0, .inr (.inr (some 129))), (1, .inl (nI a)), (2, .inl (nI b))], [], (mu_si Q1 129 19 (nI a)))) (C := [mu_is Q1 (some 129) 9]) rfl (show mu_is Q1 (some 129) 9 from (u1.1.1.is rfl)) ?_
  obtain ⟨u2, r2, d2⟩ : um m (mu_si Q1 129 19 (nI a)) ∧ ur m C Q1 (mu_si Q1 129 19 (nI a)) ∧ ud m (mu_si Q1 129 19 (nI a)) = (upI (upM U 146 bf (fun _ => (0 : Int64)) (bt - bf)) 129 19 (nI a)) := u1.sI (C := C) d1 rfl
  generalize (mu_si Q1 129 19 (nI a)) = Q2 at u2 r2 d2 ⊢
  have ht2 : ur m C H Q2 := ht1.trans r2
  refine mw_go mu_g274 (k := 3) (f1 := (26, [(0, .inr (.inr (some 129))), (1, .inl (nI a)), (2, .inl (nI b))], [], (mu_si Q2 129 20 (nI b)))) (C := [mu_is Q2 (some 129) 9]) rfl (show mu_is Q2 (some 129) 9 from (u2.1.1.is rfl)) ?_
  obtain ⟨u3, r3, d3⟩ : um m (mu_si Q2 129 20 (nI b)) ∧ ur m C Q2 (mu_si Q2 129 20 (nI b)) ∧ ud m (mu_si Q2 129 20 (nI b)) = (upI (upI (upM U 146 bf (fun _ => (0 : Int64)) (bt - bf)) 129 19 (nI a)) 129 20 (nI b)) := u2.sI (C := C) d2 rfl
  generalize (mu_si Q2 129 20 (nI b)) = Q3 at u3 r3 d3 ⊢
  have ht3 : ur m C H Q3 := ht2.trans r3
  exact mw_of (fun _ => mu_ret rfl trivial ⟨Q3, rfl, u3, ht3, d3⟩)

/-- PathProver$Relation.layList()V -/
abbrev mu_m271 : ev_M := (2, none, [], ev_b271)
theorem mu_g271 : mu_good mu_m271 := mu_goodk ev_k271
def F271 : Uf := ⟨[], [(129, 19), (129, 20)], [], [], [146], false⟩
theorem rl_lay0 (h : um m H) (e : ud m H = U) (hz : BZ U bf bt) (hn : U.2.1 129 11 = 0) : mu_TV (mu_D (d + 4)) 271 [.inr (.inr (some 129))] H (fun H1 => um m H1 ∧ ur m C H H1 ∧ uq F271 U (ud m H1) ∧ ∃ bf' bt', BZ (ud m H1) bf' bt' ∧ ∀ t, t < 16384 → (bts ((ud m H1).2.2.2.2.1 146) t = true ↔ lmz ls 0 t = true)) := by
  refine mu_meth (M := mu_m271) rfl rfl ?_
  refine mw_ht (mu_fn_of (show [0].Nodup by decide)) ?_
  refine mw_go mu_g271 (k := 3) (f1 := (5, [(0, .inr (.inr (some 129)))], [.inl (mu_i H 129 11), .inr (.inr (some 129))], H)) (C := [mu_is H (some 129) 9]) rfl (show mu_is H (some 129) 9 from (h.1.1.is rfl)) ?_
  rw [(show mu_i H 129 11 = (0 : Int32) from (ud_i (U := U) (m := m) (P := 129) (j := 11) e rfl).trans hn)]
  refine mw_if (P := (0 : Int32) = 0) (a := 8) (b := 12) (fun _ => rfl) trivial (fun h1 => ?_) (fun h1 => absurd (by decide) h1)
  refine mw_go mu_g271 (k := 4) (f1 := (25, [(0, .inr (.inr (some 129)))], [.inl (mu_i H 129 11), .inl (0 : Int32), .inr (.inr (some 129))], H)) (C := [mu_is H (some 129) 9]) rfl (show mu_is H (some 129) 9 from (h.1.1.is rfl)) ?_
  rw [(show mu_i H 129 11 = (0 : Int32) from (ud_i (U := U) (m := m) (P := 129) (j := 11) e rfl).trans hn)]
  refine mw_if (P := (0 : Int32) = 0) (a := 28) (b := 32) (fun _ => rfl) trivial (fun h2 => ?_) (fun h2 => absurd (by decide) h2)
  refine mw_go mu_g271 (k := 2) (f1 := (48, [(0, .inr (.inr (some 129)))], [.inl (0 : Int32), .inl (0 : Int32), .inr (.inr (some 129))], H)) (C := []) rfl trivial ?_
  refine mw_cV (fun _ => rfl) (show mu_is H (some 129) 9 from (h.1.1.is rfl)) (rl_clear (d := d) (C := C) (a := 0) (b := 0) h e hz) (fun Q3 q3 => ?_)
  obtain ⟨u3, r3, d3⟩ := q3
  have ht3 : ur m C H Q3 := (ur.refl m C H).trans r3
  have qf3 : uq F271 U (upI (upI (upM U 146 bf (fun _ => (0 : Int64)) (bt - bf)) 129 19 (nI 0)) 129 20 (nI 0)) := ((((uq.refl F271 U).M rfl).I rfl).I rfl)
  obtain ⟨hz2, hz0⟩ := BZ.clear hz (a := 0) (b := 0) (by decide) (by decide)
  refine mw_go mu_g271 (k := 5) (f1 := (58, [(1, .inl (0 : Int32)), (0, .inr (.inr (some 129)))], [.inl (mu_i Q3 129 11), .inl (0 : Int32)], Q3)) (C := [mu_is Q3 (some 129) 9]) rfl (show mu_is Q3 (some 129) 9 from (u3.1.1.is rfl)) ?_
  rw [(show mu_i Q3 129 11 = (0 : Int32) from (ud_i (U := (upI (upI (upM U 146 bf (fun _ => (0 : Int64)) (bt - bf)) 129 19 (nI 0)) 129 20 (nI 0))) (m := m) (P := 129) (j := 11) d3 rfl).trans hn)]
  refine mw_if (P := (0 : Int32) < (0 : Int32)) (a := 61) (b := 92) (fun _ => rfl) trivial (fun h4 => absurd h4 (by decide)) (fun h4 => ?_)
  exact mw_of (fun _ => mu_ret rfl trivial ⟨Q3, rfl, u3, ht3, (by rw [d3]; exact qf3), 0, 0, (by rw [d3]; exact hz2), (by rw [d3]; exact fun t ht => by rw [bts_zero hz0 ht]; exact ⟨fun q => (by cases q), fun q => (by cases q)⟩)⟩)
def F271a : Uf := ⟨[], [], [], [], [146], false⟩
theorem rl_lay1 (h : um m H) (e : ud m H = U) (hz : BZ U bf bt) (hn : U.2.1 129 11 = nI n) (hn1 : 1 ≤ n) (hL : ∀ i, i < n → (U.2.2.1 129 10).2 i = nI (ls i)) (hN : n ≤ (U.2.2.1 129 10).1) (hN2 : (U.2.2.1 129 10).1 < 2147483648) (hb : ∀ i, i < n → ls i < 16384) (hr : ∀ i j, i < j → j < n → ls i < ls j) : mu_TV (mu_D (d + 4)) 271 [.inr (.inr (some 129))] H (fun H1 => um m H1 ∧ ur m C H H1 ∧ uq F271 U (ud m H1) ∧ ∃ bf' bt', BZ (ud m H1) bf' bt' ∧ ∀ t, t < 16384 → (bts ((ud m H1).2.2.2.2.1 146) t = true ↔ lmz ls n t = true)) := by
  have hle : ∀ i j, i ≤ j → j < n → ls i ≤ ls j := fun i j h1 h2 => by
    by_cases e0 : i = j
    · rw [e0]; exact Nat.le_refl _
    · exact Nat.le_of_lt (hr i j (by omega) h2)
  have hb0 := hb 0 (by omega)
  have hbn := hb (n - 1) (by omega)
  have hnb : n ≤ 16384 := by
    have z1 := rise_le hr (n - 1) (by omega)
    omega
  refine mu_meth (M := mu_m271) rfl rfl ?_
  refine mw_ht (mu_fn_of (show [0].Nodup by decide)) ?_
  refine mw_go mu_g271 (k := 3) (f1 := (5, [(0, .inr (.inr (some 129)))], [.inl (mu_i H 129 11), .inr (.inr (some 129))], H)) (C := [mu_is H (some 129) 9]) rfl (show mu_is H (some 129) 9 from (h.1.1.is rfl)) ?_
  rw [(show mu_i H 129 11 = (nI n) from (ud_i (U := U) (m := m) (P := 129) (j := 11) e rfl).trans hn)]
  refine mw_if (P := (nI n) = 0) (a := 8) (b := 12) (fun _ => rfl) trivial (fun h1 => absurd h1 (fun q => absurd ((nI_eq (by omega) (by omega)).mp (show nI n = nI 0 from q)) (by omega))) (fun h1 => ?_)
  refine mw_go mu_g271 (k := 2) (f1 := (16, [(0, .inr (.inr (some 129)))], [.inr (.inr (mu_r H 129 10)), .inr (.inr (some 129))], H)) (C := [mu_is H (some 129) 9]) rfl (show mu_is H (some 129) 9 from (h.1.1.is rfl)) ?_
  rw [(show mu_r H 129 10 = (U.2.2.2.1 129 10) from (ud_q (U := U) (m := m) (P := 129) (j := 10) e rfl))]
  refine mw_go mu_g271 (k := 2) (f1 := (18, [(0, .inr (.inr (some 129)))], [.inl (mu_i H (mu_p (U.2.2.2.1 129 10)) (0 : Int32).toNatClampNeg), .inr (.inr (some 129))], H)) (C := [mu_isr H (U.2.2.2.1 129 10) 100, vp_in (0 : Int32) (mu_n H (mu_p (U.2.2.2.1 129 10)))]) rfl (show (mu_isr H (U.2.2.2.1 129 10) 100) ∧ (vp_in (0 : Int32) (mu_n H (mu_p (U.2.2.2.1 129 10)))) from ⟨((h.iA e rfl rfl (show U.2.2.2.1 129 10 = (U.2.2.2.1 129 10) from rfl))).r, (h.vA (i := 0) e rfl rfl (show U.2.2.2.1 129 10 = (U.2.2.2.1 129 10) from rfl) (show (U.2.2.1 129 10).1 = (U.2.2.1 129 10).1 from rfl) (by omega) (by omega))⟩) ?_
  rw [(show (mu_i H (mu_p (U.2.2.2.1 129 10)) (0 : Int32).toNatClampNeg) = (nI (ls 0)) from ((congrArg (mu_i H (mu_p (U.2.2.2.1 129 10))) (show (0 : Int32).toNatClampNeg = 0 from by decide)).trans (h.gA e rfl rfl (show U.2.2.2.1 129 10 = (U.2.2.2.1 129 10) from rfl))).trans ((congrArg (fun z => z.2 0) (show U.2.2.1 129 10 = (U.2.2.1 129 10) from rfl)).trans (hL 0 (by omega))))]
  have hx2 := hb 0 (by omega)
  refine mw_go mu_g271 (k := 2) (f1 := (21, [(0, .inr (.inr (some 129)))], [.inl ((nI (ls 0)) >>> ((6 : Int32) &&& 31)), .inr (.inr (some 129))], H)) (C := []) rfl trivial ?_
  rw [(show ((nI (ls 0)) >>> ((6 : Int32) &&& 31)) = (nI ((ls 0) / 64)) from (nI_shr6 (a := ls 0) (by omega)))]
  refine mw_go mu_g271 (k := 2) (f1 := (25, [(0, .inr (.inr (some 129)))], [.inl (mu_i H 129 11), .inl (nI ((ls 0) / 64)), .inr (.inr (some 129))], H)) (C := [mu_is H (some 129) 9]) rfl (show mu_is H (some 129) 9 from (h.1.1.is rfl)) ?_
  rw [(show mu_i H 129 11 = (nI n) from (ud_i (U := U) (m := m) (P := 129) (j := 11) e rfl).trans hn)]
  refine mw_if (P := (nI n) = 0) (a := 28) (b := 32) (fun _ => rfl) trivial (fun h3 => absurd h3 (fun q => absurd ((nI_eq (by omega) (by omega)).mp (show nI n = nI 0 from q)) (by omega))) (fun h3 => ?_)
  refine mw_go mu_g271 (k := 2) (f1 := (36, [(0, .inr (.inr (some 129)))], [.inr (.inr (mu_r H 129 10)), .inl (nI ((ls 0) / 64)), .inr (.inr (some 129))], H)) (C := [mu_is H (some 129) 9]) rfl (show mu_is H (some 129) 9 from (h.1.1.is rfl)) ?_
  rw [(show mu_r H 129 10 = (U.2.2.2.1 129 10) from (ud_q (U := U) (m := m) (P := 129) (j := 10) e rfl))]
  refine mw_go mu_g271 (k := 2) (f1 := (40, [(0, .inr (.inr (some 129)))], [.inl (mu_i H 129 11), .inr (.inr (U.2.2.2.1 129 10)), .inl (nI ((ls 0) / 64)), .inr (.inr (some 129))], H)) (C := [mu_is H (some 129) 9]) rfl (show mu_is H (some 129) 9 from (h.1.1.is rfl)) ?_
  rw [(show mu_i H 129 11 = (nI n) from (ud_i (U := U) (m := m) (P := 129) (j := 11) e rfl).trans hn)]
  refine mw_go mu_g271 (k := 2) (f1 := (42, [(0, .inr (.inr (some 129)))], [.inl ((nI n) - (1 : Int32)), .inr (.inr (U.2.2.2.1 129 10)), .inl (nI ((ls 0) / 64)), .inr (.inr (some 129))], H)) (C := []) rfl trivial ?_
  rw [(show ((nI n) - (1 : Int32)) = (nI (n - 1)) from (nI_sub (a := n) (b := 1) (by omega)))]
  refine mw_go mu_g271 (k := 1) (f1 := (43, [(0, .inr (.inr (some 129)))], [.inl (mu_i H (mu_p (U.2.2.2.1 129 10)) (nI (n - 1)).toNatClampNeg), .inl (nI ((ls 0) / 64)), .inr (.inr (some 129))], H)) (C := [mu_isr H (U.2.2.2.1 129 10) 100, vp_in (nI (n - 1)) (mu_n H (mu_p (U.2.2.2.1 129 10)))]) rfl (show (mu_isr H (U.2.2.2.1 129 10) 100) ∧ (vp_in (nI (n - 1)) (mu_n H (mu_p (U.2.2.2.1 129 10)))) from ⟨((h.iA e rfl rfl (show U.2.2.2.1 129 10 = (U.2.2.2.1 129 10) from rfl))).r, (h.vA (i := n - 1) e rfl rfl (show U.2.2.2.1 129 10 = (U.2.2.2.1 129 10) from rfl) (show (U.2.2.1 129 10).1 = (U.2.2.1 129 10).1 from rfl) (by omega) (by omega))⟩) ?_
  rw [(show (mu_i H (mu_p (U.2.2.2.1 129 10)) (nI (n - 1)).toNatClampNeg) = (nI (ls (n - 1))) from ((congrArg (mu_i H (mu_p (U.2.2.2.1 129 10))) (show (nI (n - 1)).toNatClampNeg = n - 1 from nI_clamp (by omega))).trans (h.gA e rfl rfl (show U.2.2.2.1 129 10 = (U.2.2.2.1 129 10) from rfl))).trans ((congrArg (fun z => z.2 (n - 1)) (show U.2.2.1 129 10 = (U.2.2.1 129 10) from rfl)).trans (hL (n - 1) (by omega))))]
  have hx4 := hb (n - 1) (by omega)
  refine mw_go mu_g271 (k := 2) (f1 := (46, [(0, .inr (.inr (some 129)))], [.inl ((nI (ls (n - 1))) >>> ((6 : Int32) &&& 31)), .inl (nI ((ls 0) / 64)), .inr (.inr (some 129))], H)) (C := []) rfl trivial ?_
  rw [(show ((nI (ls (n - 1))) >>> ((6 : Int32) &&& 31)) = (nI ((ls (n - 1)) / 64)) from (nI_shr6 (a := ls (n - 1)) (by omega)))]
  refine mw_go mu_g271 (k := 2) (f1 := (48, [(0, .inr (.inr (some 129)))], [.inl ((nI ((ls (n - 1)) / 64)) + (1 : Int32)), .inl (nI ((ls 0) / 64)), .inr (.inr (some 129))], H)) (C := []) rfl trivial ?_
  rw [(show ((nI ((ls (n - 1)) / 64)) + (1 : Int32)) = (nI (((ls (n - 1)) / 64) + 1)) from (nI_add ((ls (n - 1)) / 64) 1))]
  refine mw_cV (fun _ => rfl) (show mu_is H (some 129) 9 from (h.1.1.is rfl)) (rl_clear (d := d) (C := C) (a := (ls 0) / 64) (b := ((ls (n - 1)) / 64) + 1) h e hz) (fun Q5 q5 => ?_)
  obtain ⟨u5, r5, d5⟩ := q5
  have ht5 : ur m C H Q5 := (ur.refl m C H).trans r5
  have qf5 : uq F271 U (upI (upI (upM U 146 bf (fun _ => (0 : Int64)) (bt - bf)) 129 19 (nI ((ls 0) / 64))) 129 20 (nI (((ls (n - 1)) / 64) + 1))) := ((((uq.refl F271 U).M rfl).I rfl).I rfl)
  obtain ⟨hz2, hz0⟩ := BZ.clear hz (a := (ls 0) / 64) (b := ((ls (n - 1)) / 64) + 1) (by have z1 := hle 0 (n - 1) (by omega) (by omega); omega) (by omega)
  refine mw_go mu_g271 (k := 2) (f1 := (53, [(1, .inl (0 : Int32)), (0, .inr (.inr (some 129)))], [], Q5)) (C := []) rfl trivial ?_
  show mu_W _ _ (53, [(1, .inl (nI 0)), (0, .inr (.inr (some 129)))], [], Q5) _
  refine mw_sub (L' := [(1, .inl (nI 0)), (0, .inr (.inr (some 129)))]) (by simp) ?_
  refine mw_down (α := Nat × mu_H) (fun zs => (53, [(1, .inl (nI zs.1)), (0, .inr (.inr (some 129)))], [], zs.2)) (fun zs => n - zs.1) (fun zs => um m zs.2 ∧ ur m C H zs.2 ∧ (uq F271a (upI (upI (upM U 146 bf (fun _ => (0 : Int64)) (bt - bf)) 129 19 (nI ((ls 0) / 64))) 129 20 (nI (((ls (n - 1)) / 64) + 1))) (ud m zs.2)) ∧ (zs.1 ≤ n) ∧ (∀ t, t < 16384 → (bts ((ud m zs.2).2.2.2.2.1 146) t = true ↔ lmz ls zs.1 t = true))) (fun zs hza iha => ?_) (0, Q5) ⟨u5, ht5, (show uq F271a (upI (upI (upM U 146 bf (fun _ => (0 : Int64)) (bt - bf)) 129 19 (nI ((ls 0) / 64))) 129 20 (nI (((ls (n - 1)) / 64) + 1))) (ud m Q5) from by rw [d5]; exact uq.refl _ _), (show 0 ≤ n from (by omega)), (show ∀ t, t < 16384 → (bts ((ud m Q5).2.2.2.2.1 146) t = true ↔ lmz ls 0 t = true) from by rw [d5]; exact (fun t ht => by rw [bts_zero hz0 ht]; exact ⟨fun q => (by cases q), fun q => (by cases q)⟩))⟩
  obtain ⟨y, Hsa⟩ := zs
  obtain ⟨ua, hta, da, hw, hB⟩ := hza
  have ua : um m Hsa := ua
  have hta : ur m C H Hsa := hta
  have zza : uq F271a (upI (upI (upM U 146 bf (fun _ => (0 : Int64)) (bt - bf)) 129 19 (nI ((ls 0) / 64))) 129 20 (nI (((ls (n - 1)) / 64) + 1))) (ud m Hsa) := da
  have hw : y ≤ n := hw
  have hB : ∀ t, t < 16384 → (bts ((ud m Hsa).2.2.2.2.1 146) t = true ↔ lmz ls y t = true) := hB
  obtain ⟨Va, da⟩ : ∃ V, ud m Hsa = V := ⟨_, rfl⟩
  rw [da] at zza hB
  have qfa : uq F271 U Va := qf5.tr zza rfl
  show mu_W _ _ (53, [(1, .inl (nI y)), (0, .inr (.inr (some 129)))], [], Hsa) _
  refine mw_go mu_g271 (k := 3) (f1 := (58, [(1, .inl (nI y)), (0, .inr (.inr (some 129)))], [.inl (mu_i Hsa 129 11), .inl (nI y)], Hsa)) (C := [mu_is Hsa (some 129) 9]) rfl (show mu_is Hsa (some 129) 9 from (ua.1.1.is rfl)) ?_
  rw [(show mu_i Hsa 129 11 = (nI n) from (ud_i (U := Va) (m := m) (P := 129) (j := 11) da rfl).trans ((zza.i 129 11 rfl).trans hn))]
  refine mw_if (P := (nI y) < (nI n)) (a := 61) (b := 92) (fun _ => rfl) trivial (fun h6 => ?_) (fun h6 => ?_)
  · -- 61: (nI y) < (nI n)
    have nh6 : y < n := (nI_ltI (by omega) (by omega)).mp (show nI y < nI n from h6)
    refine mw_go mu_g271 (k := 2) (f1 := (65, [(1, .inl (nI y)), (0, .inr (.inr (some 129)))], [.inr (.inr (mu_r Hsa 129 18))], Hsa)) (C := [mu_is Hsa (some 129) 9]) rfl (show mu_is Hsa (some 129) 9 from (ua.1.1.is rfl)) ?_
    rw [(ua.1.1.r (p := 129) (j := 18) (q := 146) rfl)]
    refine mw_go mu_g271 (k := 2) (f1 := (69, [(1, .inl (nI y)), (0, .inr (.inr (some 129)))], [.inr (.inr (mu_r Hsa 129 10)), .inr (.inr (some 146))], Hsa)) (C := [mu_is Hsa (some 129) 9]) rfl (show mu_is Hsa (some 129) 9 from (ua.1.1.is rfl)) ?_
    rw [(show mu_r Hsa 129 10 = (U.2.2.2.1 129 10) from (ud_q (U := Va) (m := m) (P := 129) (j := 10) da rfl).trans (zza.r 129 10 rfl))]
    refine mw_go mu_g271 (k := 2) (f1 := (71, [(1, .inl (nI y)), (0, .inr (.inr (some 129)))], [.inl (mu_i Hsa (mu_p (U.2.2.2.1 129 10)) (nI y).toNatClampNeg), .inr (.inr (some 146))], Hsa)) (C := [mu_isr Hsa (U.2.2.2.1 129 10) 100, vp_in (nI y) (mu_n Hsa (mu_p (U.2.2.2.1 129 10)))]) rfl (show (mu_isr Hsa (U.2.2.2.1 129 10) 100) ∧ (vp_in (nI y) (mu_n Hsa (mu_p (U.2.2.2.1 129 10)))) from ⟨((ua.iA da rfl rfl (show Va.2.2.2.1 129 10 = (U.2.2.2.1 129 10) from (zza.r 129 10 rfl)))).r, (ua.vA (i := y) da rfl rfl (show Va.2.2.2.1 129 10 = (U.2.2.2.1 129 10) from (zza.r 129 10 rfl)) (show (Va.2.2.1 129 10).1 = (U.2.2.1 129 10).1 from (zza.n 129 10 rfl)) (by omega) (by omega))⟩) ?_
    rw [(show (mu_i Hsa (mu_p (U.2.2.2.1 129 10)) (nI y).toNatClampNeg) = (nI (ls y)) from ((congrArg (mu_i Hsa (mu_p (U.2.2.2.1 129 10))) (show (nI y).toNatClampNeg = y from nI_clamp (by omega))).trans (ua.gA da rfl rfl (show Va.2.2.2.1 129 10 = (U.2.2.2.1 129 10) from (zza.r 129 10 rfl)))).trans ((congrArg (fun z => z.2 y) (show Va.2.2.1 129 10 = (U.2.2.1 129 10) from (zza.a 129 10 rfl))).trans (hL y (by omega))))]
    have hx7 := hb y (by omega)
    refine mw_go mu_g271 (k := 2) (f1 := (74, [(1, .inl (nI y)), (0, .inr (.inr (some 129)))], [.inl ((nI (ls y)) >>> ((6 : Int32) &&& 31)), .inr (.inr (some 146))], Hsa)) (C := []) rfl trivial ?_
    rw [(show ((nI (ls y)) >>> ((6 : Int32) &&& 31)) = (nI ((ls y) / 64)) from (nI_shr6 (a := ls y) (by omega)))]
    refine mw_go mu_g271 (k := 2) (f1 := (76, [(1, .inl (nI y)), (0, .inr (.inr (some 129)))], [.inr (.inl (mu_l Hsa 146 (nI ((ls y) / 64)).toNatClampNeg)), .inl (nI ((ls y) / 64)), .inr (.inr (some 146))], Hsa)) (C := [mu_isr Hsa (some 146) 102, vp_in (nI ((ls y) / 64)) (mu_n Hsa 146)]) rfl (show (mu_isr Hsa (some 146) 102) ∧ (vp_in (nI ((ls y) / 64)) (mu_n Hsa 146)) from ⟨((ua.1.1.a (p := 146) (x := (102, 256)) rfl).1).r, (by rw [show mu_n Hsa 146 = 256 from (ua.1.1.a (p := 146) (x := (102, 256)) rfl).2]; exact vp_in_nI (n := (ls y) / 64) (by omega) (by decide))⟩) ?_
    rw [(show (mu_l Hsa 146 (nI ((ls y) / 64)).toNatClampNeg) = (Va.2.2.2.2.1 146) ((ls y) / 64) from (congrArg (mu_l Hsa 146) (show (nI ((ls y) / 64)).toNatClampNeg = (ls y) / 64 from nI_clamp (by omega))).trans ((ud_l (m := m) (p := 146) (i := ((ls y) / 64)) da rfl).trans (congrFun (show Va.2.2.2.2.1 146 = (Va.2.2.2.2.1 146) from rfl) ((ls y) / 64))))]
    refine mw_go mu_g271 (k := 3) (f1 := (81, [(1, .inl (nI y)), (0, .inr (.inr (some 129)))], [.inr (.inr (mu_r Hsa 129 10)), .inr (.inl (1 : Int64)), .inr (.inl ((Va.2.2.2.2.1 146) ((ls y) / 64))), .inl (nI ((ls y) / 64)), .inr (.inr (some 146))], Hsa)) (C := [mu_is Hsa (some 129) 9]) rfl (show mu_is Hsa (some 129) 9 from (ua.1.1.is rfl)) ?_
    rw [(show mu_r Hsa 129 10 = (U.2.2.2.1 129 10) from (ud_q (U := Va) (m := m) (P := 129) (j := 10) da rfl).trans (zza.r 129 10 rfl))]
    refine mw_go mu_g271 (k := 2) (f1 := (83, [(1, .inl (nI y)), (0, .inr (.inr (some 129)))], [.inl (mu_i Hsa (mu_p (U.2.2.2.1 129 10)) (nI y).toNatClampNeg), .inr (.inl (1 : Int64)), .inr (.inl ((Va.2.2.2.2.1 146) ((ls y) / 64))), .inl (nI ((ls y) / 64)), .inr (.inr (some 146))], Hsa)) (C := [mu_isr Hsa (U.2.2.2.1 129 10) 100, vp_in (nI y) (mu_n Hsa (mu_p (U.2.2.2.1 129 10)))]) rfl (show (mu_isr Hsa (U.2.2.2.1 129 10) 100) ∧ (vp_in (nI y) (mu_n Hsa (mu_p (U.2.2.2.1 129 10)))) from ⟨((ua.iA da rfl rfl (show Va.2.2.2.1 129 10 = (U.2.2.2.1 129 10) from (zza.r 129 10 rfl)))).r, (ua.vA (i := y) da rfl rfl (show Va.2.2.2.1 129 10 = (U.2.2.2.1 129 10) from (zza.r 129 10 rfl)) (show (Va.2.2.1 129 10).1 = (U.2.2.1 129 10).1 from (zza.n 129 10 rfl)) (by omega) (by omega))⟩) ?_
    rw [(show (mu_i Hsa (mu_p (U.2.2.2.1 129 10)) (nI y).toNatClampNeg) = (nI (ls y)) from ((congrArg (mu_i Hsa (mu_p (U.2.2.2.1 129 10))) (show (nI y).toNatClampNeg = y from nI_clamp (by omega))).trans (ua.gA da rfl rfl (show Va.2.2.2.1 129 10 = (U.2.2.2.1 129 10) from (zza.r 129 10 rfl)))).trans ((congrArg (fun z => z.2 y) (show Va.2.2.1 129 10 = (U.2.2.1 129 10) from (zza.a 129 10 rfl))).trans (hL y (by omega))))]
    have hx8 := hb y (by omega)
    refine mw_go mu_g271 (k := 3) (f1 := (86, [(1, .inl (nI y)), (0, .inr (.inr (some 129)))], [], (mu_sl Hsa 146 (nI ((ls y) / 64)).toNatClampNeg (((Va.2.2.2.2.1 146) ((ls y) / 64)) ||| ((1 : Int64) <<< ((nI (ls y)).toInt64 &&& 63)))))) (C := [mu_is Hsa (some 146) 102, vp_in (nI ((ls y) / 64)) (mu_n Hsa 146)]) rfl (show (mu_is Hsa (some 146) 102) ∧ (vp_in (nI ((ls y) / 64)) (mu_n Hsa 146)) from ⟨((ua.1.1.a (p := 146) (x := (102, 256)) rfl).1), (by rw [show mu_n Hsa 146 = 256 from (ua.1.1.a (p := 146) (x := (102, 256)) rfl).2]; exact vp_in_nI (n := (ls y) / 64) (by omega) (by decide))⟩) ?_
    rw [(show (nI ((ls y) / 64)).toNatClampNeg = (ls y) / 64 from nI_clamp (by omega))]
    obtain ⟨u9, r9, d9⟩ : um m (mu_sl Hsa 146 ((ls y) / 64) (((Va.2.2.2.2.1 146) ((ls y) / 64)) ||| ((1 : Int64) <<< ((nI (ls y)).toInt64 &&& 63)))) ∧ ur m C Hsa (mu_sl Hsa 146 ((ls y) / 64) (((Va.2.2.2.2.1 146) ((ls y) / 64)) ||| ((1 : Int64) <<< ((nI (ls y)).toInt64 &&& 63)))) ∧ ud m (mu_sl Hsa 146 ((ls y) / 64) (((Va.2.2.2.2.1 146) ((ls y) / 64)) ||| ((1 : Int64) <<< ((nI (ls y)).toInt64 &&& 63)))) = (upL Va 146 ((ls y) / 64) (((Va.2.2.2.2.1 146) ((ls y) / 64)) ||| ((1 : Int64) <<< ((nI (ls y)).toInt64 &&& 63)))) := ua.sL (C := C) da rfl
    generalize (mu_sl Hsa 146 ((ls y) / 64) (((Va.2.2.2.2.1 146) ((ls y) / 64)) ||| ((1 : Int64) <<< ((nI (ls y)).toInt64 &&& 63)))) = Q9 at u9 r9 d9 ⊢
    have qf9 : uq F271 U (upL Va 146 ((ls y) / 64) (((Va.2.2.2.2.1 146) ((ls y) / 64)) ||| ((1 : Int64) <<< ((nI (ls y)).toInt64 &&& 63)))) := qfa.L rfl
    have ht9 : ur m C H Q9 := hta.trans r9
    refine mw_go mu_g271 (k := 1) (f1 := (89, [(1, .inl ((nI y) + 1)), (0, .inr (.inr (some 129)))], [], Q9)) (C := []) rfl trivial ?_
    rw [(show ((nI y) + 1) = (nI (y + 1)) from (nI_add y 1))]
    refine mw_go mu_g271 (k := 1) (f1 := (53, [(1, .inl (nI (y + 1))), (0, .inr (.inr (some 129)))], [], Q9)) (C := []) rfl trivial ?_
    exact mw_sub (by simp) (iha (y + 1, Q9) ⟨u9, ht9, (show uq F271a (upI (upI (upM U 146 bf (fun _ => (0 : Int64)) (bt - bf)) 129 19 (nI ((ls 0) / 64))) 129 20 (nI (((ls (n - 1)) / 64) + 1))) (ud m Q9) from by rw [d9]; exact (zza.L rfl)), (show (y + 1) ≤ n from (by omega)), (show ∀ t, t < 16384 → (bts ((ud m Q9).2.2.2.2.1 146) t = true ↔ lmz ls (y + 1) t = true) from by rw [d9]; exact (fun t ht => by rw [upL_at]; exact lay_s (hb y (by omega)) hB t ht))⟩ (by show n - (y + 1) < n - y; omega))
  · -- 92: not (nI y) < (nI n)
    have nh6 : ¬ y < n := fun z => h6 (show nI y < nI n from (nI_ltI (by omega) (by omega)).mpr z)
    have hye : y = n := by omega
    rw [hye] at hB
    exact mw_of (fun _ => mu_ret rfl trivial ⟨Hsa, rfl, ua, hta, (by rw [da]; exact qfa), ls 0 / 64, ls (n - 1) / 64 + 1, (by rw [da]; exact BZ.of (zza.i 129 19 rfl) (zza.i 129 20 rfl) (by have z1 := hle 0 (n - 1) (by omega) (by omega); omega) (by omega) (fun t ht hbt => (by obtain ⟨i, i1, i2⟩ := (lmz_iff n).mp ((hB t ht).mp hbt); have z1 := hle 0 i (by omega) i1; have z2 := hle i (n - 1) (by omega) (by omega); omega))), (by rw [da]; exact hB)⟩)
theorem rl_lay (h : um m H) (e : ud m H = U) (hz : BZ U bf bt) (hn : U.2.1 129 11 = nI n) (hL : ∀ i, i < n → (U.2.2.1 129 10).2 i = nI (ls i)) (hN : n ≤ (U.2.2.1 129 10).1) (hN2 : (U.2.2.1 129 10).1 < 2147483648) (hb : ∀ i, i < n → ls i < 16384) (hr : ∀ i j, i < j → j < n → ls i < ls j) : mu_TV (mu_D (d + 4)) 271 [.inr (.inr (some 129))] H (fun H1 => um m H1 ∧ ur m C H H1 ∧ uq F271 U (ud m H1) ∧ ∃ bf' bt', BZ (ud m H1) bf' bt' ∧ ∀ t, t < 16384 → (bts ((ud m H1).2.2.2.2.1 146) t = true ↔ lmz ls n t = true)) := by
  by_cases h0 : n = 0
  · subst h0
    exact rl_lay0 h e hz hn
  · exact rl_lay1 h e hz hn (by omega) hL hN hN2 hb hr
/-- PathProver$Relation.recall(I)V -/
abbrev mu_m272 : ev_M := (3, none, [], ev_b272)
theorem mu_g272 : mu_good mu_m272 := mu_goodk ev_k272
theorem rl_recall (h : um m H) (e : ud m H = U) (hz : BZ U bf bt) (hF : U.2.1 113 8 = nI F0) (hid : id = F0 + row) (hs : sat U id st fc) (hst : stz fc st S) (hS : ∀ x, S x = true → x < 16384) : mu_TV (mu_D (d + 4)) 272 [.inr (.inr (some 129)), .inl (nI row)] H (fun H1 => um m H1 ∧ ur m C H H1 ∧ uq F271 U (ud m H1) ∧ ∃ bf' bt', BZ (ud m H1) bf' bt' ∧ ∀ t, t < 16384 → (bts ((ud m H1).2.2.2.2.1 146) t = true ↔ S t = true)) := by
  subst hid
  refine mu_meth (M := mu_m272) rfl rfl ?_
  refine mw_ht (mu_fn_of (show [0, 1].Nodup by decide)) ?_
  refine mw_go mu_g272 (k := 2) (f1 := (4, [(0, .inr (.inr (some 129))), (1, .inl (nI row))], [.inr (.inr (mu_r H 129 0))], H)) (C := [mu_is H (some 129) 9]) rfl (show mu_is H (some 129) 9 from (h.1.1.is rfl)) ?_
  rw [(h.1.1.r (p := 129) (j := 0) (q := 99) rfl)]
  refine mw_go mu_g272 (k := 1) (f1 := (7, [(0, .inr (.inr (some 129))), (1, .inl (nI row))], [.inr (.inr (mu_r H 99 2))], H)) (C := [mu_is H (some 99) 13]) rfl (show mu_is H (some 99) 13 from (h.1.1.is rfl)) ?_
  rw [(h.1.1.r (p := 99) (j := 2) (q := 113) rfl)]
  refine mw_go mu_g272 (k := 1) (f1 := (10, [(0, .inr (.inr (some 129))), (1, .inl (nI row))], [.inl (mu_i H 113 8)], H)) (C := [mu_is H (some 113) 11]) rfl (show mu_is H (some 113) 11 from (h.1.1.is rfl)) ?_
  rw [(show mu_i H 113 8 = (nI F0) from (ud_i (U := U) (m := m) (P := 113) (j := 8) e rfl).trans hF)]
  refine mw_go mu_g272 (k := 2) (f1 := (12, [(0, .inr (.inr (some 129))), (1, .inl (nI row))], [.inl ((nI F0) + (nI row))], H)) (C := []) rfl trivial ?_
  rw [(show ((nI F0) + (nI row)) = (nI (F0 + row)) from (nI_add F0 row))]
  refine mw_go mu_g272 (k := 4) (f1 := (18, [(2, .inl (nI (F0 + row))), (0, .inr (.inr (some 129))), (1, .inl (nI row))], [.inr (.inr (mu_r H 129 0)), .inr (.inr (some 129))], H)) (C := [mu_is H (some 129) 9]) rfl (show mu_is H (some 129) 9 from (h.1.1.is rfl)) ?_
  rw [(h.1.1.r (p := 129) (j := 0) (q := 99) rfl)]
  refine mw_go mu_g272 (k := 1) (f1 := (21, [(2, .inl (nI (F0 + row))), (0, .inr (.inr (some 129))), (1, .inl (nI row))], [.inr (.inr (mu_r H 99 2)), .inr (.inr (some 129))], H)) (C := [mu_is H (some 99) 13]) rfl (show mu_is H (some 99) 13 from (h.1.1.is rfl)) ?_
  rw [(h.1.1.r (p := 99) (j := 2) (q := 113) rfl)]
  refine mw_go mu_g272 (k := 1) (f1 := (22, [(2, .inl (nI (F0 + row))), (0, .inr (.inr (some 129))), (1, .inl (nI row))], [.inl (nI (F0 + row)), .inr (.inr (some 113)), .inr (.inr (some 129))], H)) (C := []) rfl trivial ?_
  refine mw_cI (fun _ => rfl) (show mu_is H (some 113) 11 from (h.1.1.is rfl)) (st_fx (d := (d + 1)) h e hs hst hS) (fun x1 H1 q1 => ?_)
  obtain ⟨⟨fw, rfl, fw2, fw3, fw4⟩, hQe⟩ := q1
  rw [hQe]
  refine mw_go mu_g272 (k := 2) (f1 := (29, [(2, .inl (nI (F0 + row))), (0, .inr (.inr (some 129))), (1, .inl (nI row))], [.inr (.inr (mu_r H 129 0)), .inl (nI fw), .inr (.inr (some 129))], H)) (C := [mu_is H (some 129) 9]) rfl (show mu_is H (some 129) 9 from (h.1.1.is rfl)) ?_
  rw [(h.1.1.r (p := 129) (j := 0) (q := 99) rfl)]
  refine mw_go mu_g272 (k := 1) (f1 := (32, [(2, .inl (nI (F0 + row))), (0, .inr (.inr (some 129))), (1, .inl (nI row))], [.inr (.inr (mu_r H 99 2)), .inl (nI fw), .inr (.inr (some 129))], H)) (C := [mu_is H (some 99) 13]) rfl (show mu_is H (some 99) 13 from (h.1.1.is rfl)) ?_
  rw [(h.1.1.r (p := 99) (j := 2) (q := 113) rfl)]
  refine mw_go mu_g272 (k := 1) (f1 := (33, [(2, .inl (nI (F0 + row))), (0, .inr (.inr (some 129))), (1, .inl (nI row))], [.inl (nI (F0 + row)), .inr (.inr (some 113)), .inl (nI fw), .inr (.inr (some 129))], H)) (C := []) rfl trivial ?_
  refine mw_cI (fun _ => rfl) (show mu_is H (some 113) 11 from (h.1.1.is rfl)) (st_ew (d := (d + 1)) h e hs hst hS) (fun x2 H2 q2 => ?_)
  obtain ⟨⟨ew, rfl, ew2, ew3, -⟩, hQe⟩ := q2
  rw [hQe]
  refine mw_cV (fun _ => rfl) (show mu_is H (some 129) 9 from (h.1.1.is rfl)) (rl_clear (d := d) (C := C) (a := fw) (b := ew) h e hz) (fun Q3 q3 => ?_)
  obtain ⟨u3, r3, d3⟩ := q3
  have ht3 : ur m C H Q3 := (ur.refl m C H).trans r3
  have qf3 : uq F271 U (upI (upI (upM U 146 bf (fun _ => (0 : Int64)) (bt - bf)) 129 19 (nI fw)) 129 20 (nI ew)) := ((((uq.refl F271 U).M rfl).I rfl).I rfl)
  have hfe : fw ≤ ew := fw4.elim (fun q => by omega) (fun ⟨t, q⟩ => by have z1 := fw3 t q; have z2 := ew3 t q; omega)
  obtain ⟨hz2, hz0⟩ := BZ.clear hz (a := fw) (b := ew) hfe ew2
  refine mw_go mu_g272 (k := 2) (f1 := (43, [(2, .inl (nI (F0 + row))), (0, .inr (.inr (some 129))), (1, .inl (nI row))], [.inr (.inr (mu_r Q3 129 0))], Q3)) (C := [mu_is Q3 (some 129) 9]) rfl (show mu_is Q3 (some 129) 9 from (u3.1.1.is rfl)) ?_
  rw [(u3.1.1.r (p := 129) (j := 0) (q := 99) rfl)]
  refine mw_go mu_g272 (k := 1) (f1 := (46, [(2, .inl (nI (F0 + row))), (0, .inr (.inr (some 129))), (1, .inl (nI row))], [.inr (.inr (mu_r Q3 99 2))], Q3)) (C := [mu_is Q3 (some 99) 13]) rfl (show mu_is Q3 (some 99) 13 from (u3.1.1.is rfl)) ?_
  rw [(u3.1.1.r (p := 99) (j := 2) (q := 113) rfl)]
  refine mw_go mu_g272 (k := 3) (f1 := (51, [(2, .inl (nI (F0 + row))), (0, .inr (.inr (some 129))), (1, .inl (nI row))], [.inr (.inr (mu_r Q3 129 18)), .inl (nI (F0 + row)), .inr (.inr (some 113))], Q3)) (C := [mu_is Q3 (some 129) 9]) rfl (show mu_is Q3 (some 129) 9 from (u3.1.1.is rfl)) ?_
  rw [(u3.1.1.r (p := 129) (j := 18) (q := 146) rfl)]
  refine mw_cV (fun _ => rfl) (show mu_is Q3 (some 113) 11 from (u3.1.1.is rfl)) (st_unp_146 (d := d) (C := C) u3 d3 (st := st) (fc := fc) hs hst hS (fun _ t ht => bts_zero hz0 (by have q := hst.2.1.2; omega))) (fun Q4 q4 => ?_)
  obtain ⟨u4, r4, z4, hbb⟩ := q4
  have ht4 : ur m C H Q4 := ht3.trans r4
  obtain ⟨V4, d4⟩ : ∃ V, ud m Q4 = V := ⟨_, rfl⟩
  rw [d4] at z4 hbb
  have qf4 : uq F271 U V4 := qf3.tr z4 rfl
  have hB : ∀ t, t < 16384 → (bts (V4.2.2.2.2.1 146) t = true ↔ S t = true) := fun t ht => by rw [hbb t, bts_zero hz0 ht]; exact ⟨fun q => q.elim (fun y => (by cases y)) (fun y => y), Or.inr⟩
  exact mw_of (fun _ => mu_ret rfl trivial ⟨Q4, rfl, u4, ht4, (by rw [d4]; exact qf4), fw, ew, (by rw [d4]; exact BZ.of (z4.i 129 19 rfl) (z4.i 129 20 rfl) hfe ew2 (fun t ht hbt => ⟨fw3 t ((hB t ht).mp hbt), ew3 t ((hB t ht).mp hbt)⟩)), (by rw [d4]; exact hB)⟩)
/-- PathProver$Relation.rowCount()I -/
abbrev mu_m273 : ev_M := (1, (some .int), [], ev_b273)
theorem mu_g273 : mu_good mu_m273 := mu_goodk ev_k273
theorem rl_rows (h : um m H) (e : ud m H = U) (hF : U.2.1 113 8 = nI F0) (hN : U.2.1 113 2 = nI N) (hFN : F0 ≤ N) : mu_TI (mu_D (d + 1)) 273 [.inr (.inr (some 129))] H (fun x H1 => x = nI (N - F0) ∧ H1 = H) := by
  refine mu_meth (M := mu_m273) rfl rfl ?_
  refine mw_ht (mu_fn_of (show [0].Nodup by decide)) ?_
  refine mw_go mu_g273 (k := 2) (f1 := (4, [(0, .inr (.inr (some 129)))], [.inr (.inr (mu_r H 129 0))], H)) (C := [mu_is H (some 129) 9]) rfl (show mu_is H (some 129) 9 from (h.1.1.is rfl)) ?_
  rw [(h.1.1.r (p := 129) (j := 0) (q := 99) rfl)]
  refine mw_go mu_g273 (k := 1) (f1 := (7, [(0, .inr (.inr (some 129)))], [.inr (.inr (mu_r H 99 2))], H)) (C := [mu_is H (some 99) 13]) rfl (show mu_is H (some 99) 13 from (h.1.1.is rfl)) ?_
  rw [(h.1.1.r (p := 99) (j := 2) (q := 113) rfl)]
  refine mw_go mu_g273 (k := 1) (f1 := (10, [(0, .inr (.inr (some 129)))], [.inl (mu_i H 113 2)], H)) (C := [mu_is H (some 113) 11]) rfl (show mu_is H (some 113) 11 from (h.1.1.is rfl)) ?_
  rw [(show mu_i H 113 2 = (nI N) from (ud_i (U := U) (m := m) (P := 113) (j := 2) e rfl).trans hN)]
  refine mw_go mu_g273 (k := 2) (f1 := (14, [(0, .inr (.inr (some 129)))], [.inr (.inr (mu_r H 129 0)), .inl (nI N)], H)) (C := [mu_is H (some 129) 9]) rfl (show mu_is H (some 129) 9 from (h.1.1.is rfl)) ?_
  rw [(h.1.1.r (p := 129) (j := 0) (q := 99) rfl)]
  refine mw_go mu_g273 (k := 1) (f1 := (17, [(0, .inr (.inr (some 129)))], [.inr (.inr (mu_r H 99 2)), .inl (nI N)], H)) (C := [mu_is H (some 99) 13]) rfl (show mu_is H (some 99) 13 from (h.1.1.is rfl)) ?_
  rw [(h.1.1.r (p := 99) (j := 2) (q := 113) rfl)]
  refine mw_go mu_g273 (k := 1) (f1 := (20, [(0, .inr (.inr (some 129)))], [.inl (mu_i H 113 8), .inl (nI N)], H)) (C := [mu_is H (some 113) 11]) rfl (show mu_is H (some 113) 11 from (h.1.1.is rfl)) ?_
  rw [(show mu_i H 113 8 = (nI F0) from (ud_i (U := U) (m := m) (P := 113) (j := 8) e rfl).trans hF)]
  refine mw_go mu_g273 (k := 1) (f1 := (21, [(0, .inr (.inr (some 129)))], [.inl ((nI N) - (nI F0))], H)) (C := []) rfl trivial ?_
  rw [(show ((nI N) - (nI F0)) = (nI (N - F0)) from (nI_sub (a := N) (b := F0) (by omega)))]
  exact mw_of (fun _ => mu_ret rfl trivial ⟨(nI (N - F0)), H, rfl, ⟨rfl, rfl⟩⟩)
/-- PathProver$Relation.isAbsent(I)Z -/
abbrev mu_m270 : ev_M := (2, (some .boolean), [], ev_b270)
theorem mu_g270 : mu_good mu_m270 := mu_goodk ev_k270
theorem rl_absN (h : um m H) (e : ud m H = U) (hF : U.2.1 113 8 = nI F0) (hid : id = F0 + row) (hs : sat U id st fc) : mu_TI (mu_D (d + 2)) 270 [.inr (.inr (some 129)), .inl (nI row)] H (fun x H1 => x = 0 ∧ H1 = H) := by
  subst hid
  refine mu_meth (M := mu_m270) rfl rfl ?_
  refine mw_ht (mu_fn_of (show [0, 1].Nodup by decide)) ?_
  refine mw_go mu_g270 (k := 2) (f1 := (4, [(0, .inr (.inr (some 129))), (1, .inl (nI row))], [.inr (.inr (mu_r H 129 0))], H)) (C := [mu_is H (some 129) 9]) rfl (show mu_is H (some 129) 9 from (h.1.1.is rfl)) ?_
  rw [(h.1.1.r (p := 129) (j := 0) (q := 99) rfl)]
  refine mw_go mu_g270 (k := 1) (f1 := (7, [(0, .inr (.inr (some 129))), (1, .inl (nI row))], [.inr (.inr (mu_r H 99 2))], H)) (C := [mu_is H (some 99) 13]) rfl (show mu_is H (some 99) 13 from (h.1.1.is rfl)) ?_
  rw [(h.1.1.r (p := 99) (j := 2) (q := 113) rfl)]
  refine mw_go mu_g270 (k := 2) (f1 := (11, [(0, .inr (.inr (some 129))), (1, .inl (nI row))], [.inr (.inr (mu_r H 129 0)), .inr (.inr (some 113))], H)) (C := [mu_is H (some 129) 9]) rfl (show mu_is H (some 129) 9 from (h.1.1.is rfl)) ?_
  rw [(h.1.1.r (p := 129) (j := 0) (q := 99) rfl)]
  refine mw_go mu_g270 (k := 1) (f1 := (14, [(0, .inr (.inr (some 129))), (1, .inl (nI row))], [.inr (.inr (mu_r H 99 2)), .inr (.inr (some 113))], H)) (C := [mu_is H (some 99) 13]) rfl (show mu_is H (some 99) 13 from (h.1.1.is rfl)) ?_
  rw [(h.1.1.r (p := 99) (j := 2) (q := 113) rfl)]
  refine mw_go mu_g270 (k := 1) (f1 := (17, [(0, .inr (.inr (some 129))), (1, .inl (nI row))], [.inl (mu_i H 113 8), .inr (.inr (some 113))], H)) (C := [mu_is H (some 113) 11]) rfl (show mu_is H (some 113) 11 from (h.1.1.is rfl)) ?_
  rw [(show mu_i H 113 8 = (nI F0) from (ud_i (U := U) (m := m) (P := 113) (j := 8) e rfl).trans hF)]
  refine mw_go mu_g270 (k := 2) (f1 := (19, [(0, .inr (.inr (some 129))), (1, .inl (nI row))], [.inl ((nI F0) + (nI row)), .inr (.inr (some 113))], H)) (C := []) rfl trivial ?_
  rw [(show ((nI F0) + (nI row)) = (nI (F0 + row)) from (nI_add F0 row))]
  refine mw_cIe (fun _ => rfl) (show mu_is H (some 113) 11 from (h.1.1.is rfl)) (st_absN (d := d) h e hs) ?_
  exact mw_of (fun _ => mu_ret rfl (Or.inl rfl) ⟨(0 : Int32), H, rfl, ⟨rfl, rfl⟩⟩)
theorem rl_absY (h : um m H) (e : ud m H = U) (hF : U.2.1 113 8 = nI F0) (hid : id = F0 + row) (hs : sab U id n) : mu_TI (mu_D (d + 2)) 270 [.inr (.inr (some 129)), .inl (nI row)] H (fun x H1 => x = 1 ∧ H1 = H) := by
  subst hid
  refine mu_meth (M := mu_m270) rfl rfl ?_
  refine mw_ht (mu_fn_of (show [0, 1].Nodup by decide)) ?_
  refine mw_go mu_g270 (k := 2) (f1 := (4, [(0, .inr (.inr (some 129))), (1, .inl (nI row))], [.inr (.inr (mu_r H 129 0))], H)) (C := [mu_is H (some 129) 9]) rfl (show mu_is H (some 129) 9 from (h.1.1.is rfl)) ?_
  rw [(h.1.1.r (p := 129) (j := 0) (q := 99) rfl)]
  refine mw_go mu_g270 (k := 1) (f1 := (7, [(0, .inr (.inr (some 129))), (1, .inl (nI row))], [.inr (.inr (mu_r H 99 2))], H)) (C := [mu_is H (some 99) 13]) rfl (show mu_is H (some 99) 13 from (h.1.1.is rfl)) ?_
  rw [(h.1.1.r (p := 99) (j := 2) (q := 113) rfl)]
  refine mw_go mu_g270 (k := 2) (f1 := (11, [(0, .inr (.inr (some 129))), (1, .inl (nI row))], [.inr (.inr (mu_r H 129 0)), .inr (.inr (some 113))], H)) (C := [mu_is H (some 129) 9]) rfl (show mu_is H (some 129) 9 from (h.1.1.is rfl)) ?_
  rw [(h.1.1.r (p := 129) (j := 0) (q := 99) rfl)]
  refine mw_go mu_g270 (k := 1) (f1 := (14, [(0, .inr (.inr (some 129))), (1, .inl (nI row))], [.inr (.inr (mu_r H 99 2)), .inr (.inr (some 113))], H)) (C := [mu_is H (some 99) 13]) rfl (show mu_is H (some 99) 13 from (h.1.1.is rfl)) ?_
  rw [(h.1.1.r (p := 99) (j := 2) (q := 113) rfl)]
  refine mw_go mu_g270 (k := 1) (f1 := (17, [(0, .inr (.inr (some 129))), (1, .inl (nI row))], [.inl (mu_i H 113 8), .inr (.inr (some 113))], H)) (C := [mu_is H (some 113) 11]) rfl (show mu_is H (some 113) 11 from (h.1.1.is rfl)) ?_
  rw [(show mu_i H 113 8 = (nI F0) from (ud_i (U := U) (m := m) (P := 113) (j := 8) e rfl).trans hF)]
  refine mw_go mu_g270 (k := 2) (f1 := (19, [(0, .inr (.inr (some 129))), (1, .inl (nI row))], [.inl ((nI F0) + (nI row)), .inr (.inr (some 113))], H)) (C := []) rfl trivial ?_
  rw [(show ((nI F0) + (nI row)) = (nI (F0 + row)) from (nI_add F0 row))]
  refine mw_cIe (fun _ => rfl) (show mu_is H (some 113) 11 from (h.1.1.is rfl)) (st_absY (d := d) h e hs) ?_
  exact mw_of (fun _ => mu_ret rfl (Or.inr rfl) ⟨(1 : Int32), H, rfl, ⟨rfl, rfl⟩⟩)
/-- PathProver$Relation.sizeOfRow(I)I -/
abbrev mu_m287 : ev_M := (2, (some .int), [], ev_b287)
theorem mu_g287 : mu_good mu_m287 := mu_goodk ev_k287
theorem rl_size (h : um m H) (e : ud m H = U) (hF : U.2.1 113 8 = nI F0) (hid : id = F0 + row) (hs : sat U id st fc) : mu_TI (mu_D (d + 2)) 287 [.inr (.inr (some 129)), .inl (nI row)] H (fun x H1 => x = nI (hsz fc st) ∧ H1 = H) := by
  subst hid
  refine mu_meth (M := mu_m287) rfl rfl ?_
  refine mw_ht (mu_fn_of (show [0, 1].Nodup by decide)) ?_
  refine mw_go mu_g287 (k := 2) (f1 := (4, [(0, .inr (.inr (some 129))), (1, .inl (nI row))], [.inr (.inr (mu_r H 129 0))], H)) (C := [mu_is H (some 129) 9]) rfl (show mu_is H (some 129) 9 from (h.1.1.is rfl)) ?_
  rw [(h.1.1.r (p := 129) (j := 0) (q := 99) rfl)]
  refine mw_go mu_g287 (k := 1) (f1 := (7, [(0, .inr (.inr (some 129))), (1, .inl (nI row))], [.inr (.inr (mu_r H 99 2))], H)) (C := [mu_is H (some 99) 13]) rfl (show mu_is H (some 99) 13 from (h.1.1.is rfl)) ?_
  rw [(h.1.1.r (p := 99) (j := 2) (q := 113) rfl)]
  refine mw_go mu_g287 (k := 2) (f1 := (11, [(0, .inr (.inr (some 129))), (1, .inl (nI row))], [.inr (.inr (mu_r H 129 0)), .inr (.inr (some 113))], H)) (C := [mu_is H (some 129) 9]) rfl (show mu_is H (some 129) 9 from (h.1.1.is rfl)) ?_
  rw [(h.1.1.r (p := 129) (j := 0) (q := 99) rfl)]
  refine mw_go mu_g287 (k := 1) (f1 := (14, [(0, .inr (.inr (some 129))), (1, .inl (nI row))], [.inr (.inr (mu_r H 99 2)), .inr (.inr (some 113))], H)) (C := [mu_is H (some 99) 13]) rfl (show mu_is H (some 99) 13 from (h.1.1.is rfl)) ?_
  rw [(h.1.1.r (p := 99) (j := 2) (q := 113) rfl)]
  refine mw_go mu_g287 (k := 1) (f1 := (17, [(0, .inr (.inr (some 129))), (1, .inl (nI row))], [.inl (mu_i H 113 8), .inr (.inr (some 113))], H)) (C := [mu_is H (some 113) 11]) rfl (show mu_is H (some 113) 11 from (h.1.1.is rfl)) ?_
  rw [(show mu_i H 113 8 = (nI F0) from (ud_i (U := U) (m := m) (P := 113) (j := 8) e rfl).trans hF)]
  refine mw_go mu_g287 (k := 2) (f1 := (19, [(0, .inr (.inr (some 129))), (1, .inl (nI row))], [.inl ((nI F0) + (nI row)), .inr (.inr (some 113))], H)) (C := []) rfl trivial ?_
  rw [(show ((nI F0) + (nI row)) = (nI (F0 + row)) from (nI_add F0 row))]
  refine mw_cIe (fun _ => rfl) (show mu_is H (some 113) 11 from (h.1.1.is rfl)) (st_size (d := d) h e hs) ?_
  exact mw_of (fun _ => mu_ret rfl trivial ⟨(nI (hsz fc st)), H, rfl, ⟨rfl, rfl⟩⟩)
theorem rl_sizeA (h : um m H) (e : ud m H = U) (hF : U.2.1 113 8 = nI F0) (hid : id = F0 + row) (hs : sab U id n) : mu_TI (mu_D (d + 2)) 287 [.inr (.inr (some 129)), .inl (nI row)] H (fun x H1 => x = nI n ∧ H1 = H) := by
  subst hid
  refine mu_meth (M := mu_m287) rfl rfl ?_
  refine mw_ht (mu_fn_of (show [0, 1].Nodup by decide)) ?_
  refine mw_go mu_g287 (k := 2) (f1 := (4, [(0, .inr (.inr (some 129))), (1, .inl (nI row))], [.inr (.inr (mu_r H 129 0))], H)) (C := [mu_is H (some 129) 9]) rfl (show mu_is H (some 129) 9 from (h.1.1.is rfl)) ?_
  rw [(h.1.1.r (p := 129) (j := 0) (q := 99) rfl)]
  refine mw_go mu_g287 (k := 1) (f1 := (7, [(0, .inr (.inr (some 129))), (1, .inl (nI row))], [.inr (.inr (mu_r H 99 2))], H)) (C := [mu_is H (some 99) 13]) rfl (show mu_is H (some 99) 13 from (h.1.1.is rfl)) ?_
  rw [(h.1.1.r (p := 99) (j := 2) (q := 113) rfl)]
  refine mw_go mu_g287 (k := 2) (f1 := (11, [(0, .inr (.inr (some 129))), (1, .inl (nI row))], [.inr (.inr (mu_r H 129 0)), .inr (.inr (some 113))], H)) (C := [mu_is H (some 129) 9]) rfl (show mu_is H (some 129) 9 from (h.1.1.is rfl)) ?_
  rw [(h.1.1.r (p := 129) (j := 0) (q := 99) rfl)]
  refine mw_go mu_g287 (k := 1) (f1 := (14, [(0, .inr (.inr (some 129))), (1, .inl (nI row))], [.inr (.inr (mu_r H 99 2)), .inr (.inr (some 113))], H)) (C := [mu_is H (some 99) 13]) rfl (show mu_is H (some 99) 13 from (h.1.1.is rfl)) ?_
  rw [(h.1.1.r (p := 99) (j := 2) (q := 113) rfl)]
  refine mw_go mu_g287 (k := 1) (f1 := (17, [(0, .inr (.inr (some 129))), (1, .inl (nI row))], [.inl (mu_i H 113 8), .inr (.inr (some 113))], H)) (C := [mu_is H (some 113) 11]) rfl (show mu_is H (some 113) 11 from (h.1.1.is rfl)) ?_
  rw [(show mu_i H 113 8 = (nI F0) from (ud_i (U := U) (m := m) (P := 113) (j := 8) e rfl).trans hF)]
  refine mw_go mu_g287 (k := 2) (f1 := (19, [(0, .inr (.inr (some 129))), (1, .inl (nI row))], [.inl ((nI F0) + (nI row)), .inr (.inr (some 113))], H)) (C := []) rfl trivial ?_
  rw [(show ((nI F0) + (nI row)) = (nI (F0 + row)) from (nI_add F0 row))]
  refine mw_cIe (fun _ => rfl) (show mu_is H (some 113) 11 from (h.1.1.is rfl)) (st_sizeA (d := d) h e hs) ?_
  exact mw_of (fun _ => mu_ret rfl trivial ⟨(nI n), H, rfl, ⟨rfl, rfl⟩⟩)
/-- PathProver$Relation.indexOf(I)I -/
abbrev mu_m282 : ev_M := (4, (some .int), [], ev_b282)
theorem mu_g282 : mu_good mu_m282 := mu_goodk ev_k282
theorem rl_index (h : um m H) (e : ud m H = U) (hS : spx m U P f) (hd : ∀ k, k < P → (U.2.2.1 129 16).2 k = nI (dg k)) : mu_TI (mu_D (d + 1)) 282 [.inr (.inr (some 129)), .inl mk] H (fun x H1 => x = nI (ixz mk f dg P) ∧ H1 = H) := by
  obtain ⟨⟨s4, s10, s11, s12⟩, hk5, ⟨g8, g8b, g18, g18b⟩, ⟨gP, gpd, gsm⟩, hsp, hmo⟩ := hS
  refine mu_meth (M := mu_m282) rfl rfl ?_
  refine mw_ht (mu_fn_of (show [0, 1].Nodup by decide)) ?_
  refine mw_go mu_g282 (k := 4) (f1 := (4, [(3, .inl (0 : Int32)), (2, .inl (0 : Int32)), (0, .inr (.inr (some 129))), (1, .inl mk)], [], H)) (C := []) rfl trivial ?_
  show mu_W _ _ (4, [(3, .inl (nI 0)), (2, .inl (nI (ixz mk f dg 0))), (0, .inr (.inr (some 129))), (1, .inl mk)], [], H) _
  refine mw_sub (L' := [(3, .inl (nI 0)), (2, .inl (nI (ixz mk f dg 0))), (0, .inr (.inr (some 129))), (1, .inl mk)]) (by simp) ?_
  refine mw_down (α := Nat) (fun zs => (4, [(3, .inl (nI zs)), (2, .inl (nI (ixz mk f dg zs))), (0, .inr (.inr (some 129))), (1, .inl mk)], [], H)) (fun zs => P - zs) (fun zs => (zs ≤ P)) (fun zs hza iha => ?_) 0 (show 0 ≤ P from (by omega))
  obtain ⟨k, rfl⟩ : ∃ y, y = zs := ⟨zs, rfl⟩
  have hk := hza
  have hk : k ≤ P := hk
  show mu_W _ _ (4, [(3, .inl (nI k)), (2, .inl (nI (ixz mk f dg k))), (0, .inr (.inr (some 129))), (1, .inl mk)], [], H) _
  refine mw_go mu_g282 (k := 3) (f1 := (9, [(3, .inl (nI k)), (2, .inl (nI (ixz mk f dg k))), (0, .inr (.inr (some 129))), (1, .inl mk)], [.inr (.inr (mu_r H 129 0)), .inl (nI k)], H)) (C := [mu_is H (some 129) 9]) rfl (show mu_is H (some 129) 9 from (h.1.1.is rfl)) ?_
  rw [(h.1.1.r (p := 129) (j := 0) (q := 99) rfl)]
  refine mw_go mu_g282 (k := 1) (f1 := (12, [(3, .inl (nI k)), (2, .inl (nI (ixz mk f dg k))), (0, .inr (.inr (some 129))), (1, .inl mk)], [.inl (mu_i H 99 4), .inl (nI k)], H)) (C := [mu_is H (some 99) 13]) rfl (show mu_is H (some 99) 13 from (h.1.1.is rfl)) ?_
  rw [(show mu_i H 99 4 = (nI P) from (ud_i (U := U) (m := m) (P := 99) (j := 4) e rfl).trans s4)]
  refine mw_if (P := (nI k) < (nI P)) (a := 15) (b := 48) (fun _ => rfl) trivial (fun h1 => ?_) (fun h1 => ?_)
  · -- 15: (nI k) < (nI P)
    have nh1 : k < P := (nI_ltI (by omega) (by omega)).mp (show nI k < nI P from h1)
    refine mw_go mu_g282 (k := 5) (f1 := (20, [(3, .inl (nI k)), (2, .inl (nI (ixz mk f dg k))), (0, .inr (.inr (some 129))), (1, .inl mk)], [.inl (((mk.toUInt32 >>> ((nI k).toUInt32 &&& Int32.toUInt32 31)).toInt32) &&& (1 : Int32))], H)) (C := []) rfl trivial ?_
    refine mw_if (P := (((mk.toUInt32 >>> ((nI k).toUInt32 &&& Int32.toUInt32 31)).toInt32) &&& (1 : Int32)) = 0) (a := 42) (b := 23) (fun _ => rfl) trivial (fun h2 => ?_) (fun h2 => ?_)
    · -- 42: (((mk.toUInt32 >>> ((nI k).toUInt32 &&& Int32.toUInt32 31)).toInt32) &&& (1 : Int32)) = 0
      refine mw_go mu_g282 (k := 1) (f1 := (45, [(3, .inl ((nI k) + 1)), (2, .inl (nI (ixz mk f dg k))), (0, .inr (.inr (some 129))), (1, .inl mk)], [], H)) (C := []) rfl trivial ?_
      rw [(show ((nI k) + 1) = (nI (k + 1)) from (nI_add k 1))]
      refine mw_go mu_g282 (k := 1) (f1 := (4, [(3, .inl (nI (k + 1))), (2, .inl (nI (ixz mk f dg k))), (0, .inr (.inr (some 129))), (1, .inl mk)], [], H)) (C := []) rfl trivial ?_
      rw [show nI (ixz mk f dg k) = nI (ixz mk f dg (k + 1)) from congrArg nI (if_pos h2).symm]
      exact mw_sub (by simp) (iha (k + 1) (show (k + 1) ≤ P from (by omega)) (by show P - (k + 1) < P - k; omega))
    · -- 23: not (((mk.toUInt32 >>> ((nI k).toUInt32 &&& Int32.toUInt32 31)).toInt32) &&& (1 : Int32)) = 0
      refine mw_go mu_g282 (k := 3) (f1 := (28, [(3, .inl (nI k)), (2, .inl (nI (ixz mk f dg k))), (0, .inr (.inr (some 129))), (1, .inl mk)], [.inr (.inr (mu_r H 129 0)), .inl (nI (ixz mk f dg k))], H)) (C := [mu_is H (some 129) 9]) rfl (show mu_is H (some 129) 9 from (h.1.1.is rfl)) ?_
      rw [(h.1.1.r (p := 129) (j := 0) (q := 99) rfl)]
      refine mw_go mu_g282 (k := 1) (f1 := (31, [(3, .inl (nI k)), (2, .inl (nI (ixz mk f dg k))), (0, .inr (.inr (some 129))), (1, .inl mk)], [.inr (.inr (mu_r H 99 5)), .inl (nI (ixz mk f dg k))], H)) (C := [mu_is H (some 99) 13]) rfl (show mu_is H (some 99) 13 from (h.1.1.is rfl)) ?_
      rw [(h.1.1.r (p := 99) (j := 5) (q := 120) rfl)]
      refine mw_go mu_g282 (k := 2) (f1 := (33, [(3, .inl (nI k)), (2, .inl (nI (ixz mk f dg k))), (0, .inr (.inr (some 129))), (1, .inl mk)], [.inl (mu_i H 120 (nI k).toNatClampNeg), .inl (nI (ixz mk f dg k))], H)) (C := [mu_isr H (some 120) 100, vp_in (nI k) (mu_n H 120)]) rfl (show (mu_isr H (some 120) 100) ∧ (vp_in (nI k) (mu_n H 120)) from ⟨((h.iA e rfl rfl ((ud_q (m := m) (P := 99) (j := 5) e rfl).symm.trans (h.1.1.r (p := 99) (j := 5) (q := 120) rfl)))).r, (by rw [show mu_n H 120 = 14 from (h.1.1.a (p := 120) (x := (100, 14)) rfl).2]; exact vp_in_nI (n := k) (by omega) (by decide))⟩) ?_
      rw [(show (mu_i H 120 (nI k).toNatClampNeg) = (nI (f k)) from ((congrArg (mu_i H 120) (show (nI k).toNatClampNeg = k from nI_clamp (by omega))).trans (h.gA e rfl rfl ((ud_q (m := m) (P := 99) (j := 5) e rfl).symm.trans (h.1.1.r (p := 99) (j := 5) (q := 120) rfl)))).trans ((congrArg (fun z => z.2 k) (show U.2.2.1 99 5 = (U.2.2.1 99 5) from rfl)).trans (hk5 k (by omega)).1))]
      refine mw_go mu_g282 (k := 1) (f1 := (34, [(3, .inl (nI k)), (2, .inl (nI (ixz mk f dg k))), (0, .inr (.inr (some 129))), (1, .inl mk)], [.inl ((nI (ixz mk f dg k)) * (nI (f k)))], H)) (C := []) rfl trivial ?_
      rw [(show ((nI (ixz mk f dg k)) * (nI (f k))) = (nI ((ixz mk f dg k) * (f k))) from (nI_mul (a := ixz mk f dg k) (b := f k)))]
      refine mw_go mu_g282 (k := 2) (f1 := (38, [(3, .inl (nI k)), (2, .inl (nI (ixz mk f dg k))), (0, .inr (.inr (some 129))), (1, .inl mk)], [.inr (.inr (mu_r H 129 16)), .inl (nI ((ixz mk f dg k) * (f k)))], H)) (C := [mu_is H (some 129) 9]) rfl (show mu_is H (some 129) 9 from (h.1.1.is rfl)) ?_
      rw [(h.1.1.r (p := 129) (j := 16) (q := 144) rfl)]
      refine mw_go mu_g282 (k := 2) (f1 := (40, [(3, .inl (nI k)), (2, .inl (nI (ixz mk f dg k))), (0, .inr (.inr (some 129))), (1, .inl mk)], [.inl (mu_i H 144 (nI k).toNatClampNeg), .inl (nI ((ixz mk f dg k) * (f k)))], H)) (C := [mu_isr H (some 144) 100, vp_in (nI k) (mu_n H 144)]) rfl (show (mu_isr H (some 144) 100) ∧ (vp_in (nI k) (mu_n H 144)) from ⟨((h.iA e rfl rfl ((ud_q (m := m) (P := 129) (j := 16) e rfl).symm.trans (h.1.1.r (p := 129) (j := 16) (q := 144) rfl)))).r, (by rw [show mu_n H 144 = 14 from (h.1.1.a (p := 144) (x := (100, 14)) rfl).2]; exact vp_in_nI (n := k) (by omega) (by decide))⟩) ?_
      rw [(show (mu_i H 144 (nI k).toNatClampNeg) = (nI (dg k)) from ((congrArg (mu_i H 144) (show (nI k).toNatClampNeg = k from nI_clamp (by omega))).trans (h.gA e rfl rfl ((ud_q (m := m) (P := 129) (j := 16) e rfl).symm.trans (h.1.1.r (p := 129) (j := 16) (q := 144) rfl)))).trans ((congrArg (fun z => z.2 k) (show U.2.2.1 129 16 = (U.2.2.1 129 16) from rfl)).trans (hd k (by omega))))]
      refine mw_go mu_g282 (k := 1) (f1 := (41, [(3, .inl (nI k)), (2, .inl (nI (ixz mk f dg k))), (0, .inr (.inr (some 129))), (1, .inl mk)], [.inl ((nI ((ixz mk f dg k) * (f k))) + (nI (dg k)))], H)) (C := []) rfl trivial ?_
      rw [(show ((nI ((ixz mk f dg k) * (f k))) + (nI (dg k))) = (nI (((ixz mk f dg k) * (f k)) + (dg k))) from (nI_add ((ixz mk f dg k) * (f k)) (dg k)))]
      refine mw_go mu_g282 (k := 2) (f1 := (45, [(3, .inl ((nI k) + 1)), (2, .inl (nI (((ixz mk f dg k) * (f k)) + (dg k)))), (0, .inr (.inr (some 129))), (1, .inl mk)], [], H)) (C := []) rfl trivial ?_
      rw [(show ((nI k) + 1) = (nI (k + 1)) from (nI_add k 1))]
      refine mw_go mu_g282 (k := 1) (f1 := (4, [(3, .inl (nI (k + 1))), (2, .inl (nI (((ixz mk f dg k) * (f k)) + (dg k)))), (0, .inr (.inr (some 129))), (1, .inl mk)], [], H)) (C := []) rfl trivial ?_
      rw [show nI (((ixz mk f dg k) * (f k)) + (dg k)) = nI (ixz mk f dg (k + 1)) from congrArg nI (if_neg h2).symm]
      exact mw_sub (by simp) (iha (k + 1) (show (k + 1) ≤ P from (by omega)) (by show P - (k + 1) < P - k; omega))
  · -- 48: not (nI k) < (nI P)
    have nh1 : ¬ k < P := fun z => h1 (show nI k < nI P from (nI_ltI (by omega) (by omega)).mpr z)
    refine mw_go mu_g282 (k := 1) (f1 := (49, [(3, .inl (nI k)), (2, .inl (nI (ixz mk f dg k))), (0, .inr (.inr (some 129))), (1, .inl mk)], [.inl (nI (ixz mk f dg k))], H)) (C := []) rfl trivial ?_
    exact mw_of (fun _ => mu_ret rfl trivial ⟨(nI (ixz mk f dg k)), H, rfl, (by rw [show k = P by omega]), rfl⟩)
end Rel1
