/-! The reference: symbol, noteSymbols -/
/-- PathProverModel.symbol(Ljava/lang/String;)I -/
abbrev mu_m442 : ev_M := (3, (some .int), [], ev_b442)
theorem mu_g442 : mu_good mu_m442 := mu_goodk ev_k442
/-- PathProverModel.noteSymbols(LPathProverModel$Node;)V -/
abbrev mu_m507 : ev_M := (6, none, [], ev_b507)
theorem mu_g507 : mu_good mu_m507 := mu_goodk ev_k507
theorem rp_sym0 {d r s : Nat} {H : mu_H} {sy : List (List Int32)} {b : List Int32} (h9 : mu_is H (some 169) 1) (hr : mu_r H 169 16 = some r) (hk : mu_is H (some r) 103) (hn : sy.length ≤ mu_n H r ∧ mu_n H r < 2 ^ 31) (hc : mu_i H 169 17 = nI sy.length) (he : ∀ i, i < sy.length → ∃ s, mu_r H r i = some s ∧ sb H (some s) (sy.getD i []) ∧ (sy.getD i []).length < 131072) (hb : sb H (some s) b) (hb2 : b.length < 2 ^ 31) : ∀ m k, k + m = sy.length → mu_W (mu_D (d + 2)) mu_m442 (2, [(2, .inl (nI k)), (1, .inr (.inr (some s))), (0, .inr (.inr (some 169)))], [], H) (fun r => ∃ x H1, r = (.inl (some (.inl x)), H1) ∧ x = fid (fun i => decide (sy.getD i [] = b)) m k ∧ H1 = H)
  | 0, k, hm => by
    refine mw_go mu_g442 (k := 3) (f1 := (7, [(2, .inl (nI k)), (1, .inr (.inr (some s))), (0, .inr (.inr (some 169)))], [.inl (mu_i H 169 17), .inl (nI k)], H)) (C := [mu_is H (some 169) 1]) rfl (show mu_is H (some 169) 1 from h9) ?_
    refine mw_fr (f' := (7, [(2, .inl (nI k)), (1, .inr (.inr (some s))), (0, .inr (.inr (some 169)))], [.inl (nI sy.length), .inl (nI k)], H)) (by first | (rw [hc]; done) | (rw [hc]; rfl)) ?_
    refine mw_if (P := (nI k) < (nI sy.length)) (a := 10) (b := 31) (fun _ => rfl) trivial (fun h1 => absurd h1 (by rw [show k = sy.length by omega]; exact Int32.lt_irrefl)) (fun h1 => ?_)
    refine mw_go mu_g442 (k := 1) (f1 := (32, [(2, .inl (nI k)), (1, .inr (.inr (some s))), (0, .inr (.inr (some 169)))], [.inl (-1 : Int32)], H)) (C := []) rfl trivial ?_
    exact mw_of (fun _ => mu_ret rfl trivial ⟨_, _, rfl, rfl, rfl⟩)
  | m + 1, k, hm => by
    obtain ⟨u, u1, u2, u3⟩ := he k (by omega)
    obtain ⟨a1, a2, a3, a4⟩ := ar_at hk (by decide) (show k < mu_n H r by omega) hn.2
    have u4 : mu_r H r (nI k).toNatClampNeg = some u := by rw [a4]; exact u1
    refine mw_go mu_g442 (k := 3) (f1 := (7, [(2, .inl (nI k)), (1, .inr (.inr (some s))), (0, .inr (.inr (some 169)))], [.inl (mu_i H 169 17), .inl (nI k)], H)) (C := [mu_is H (some 169) 1]) rfl (show mu_is H (some 169) 1 from h9) ?_
    refine mw_fr (f' := (7, [(2, .inl (nI k)), (1, .inr (.inr (some s))), (0, .inr (.inr (some 169)))], [.inl (nI sy.length), .inl (nI k)], H)) (by first | (rw [hc]; done) | (rw [hc]; rfl)) ?_
    refine mw_if (P := (nI k) < (nI sy.length)) (a := 10) (b := 31) (fun _ => rfl) trivial (fun h1 => ?_) (fun h1 => absurd (nI_lt (show k < sy.length by omega) (by omega)) h1)
    refine mw_go mu_g442 (k := 3) (f1 := (15, [(2, .inl (nI k)), (1, .inr (.inr (some s))), (0, .inr (.inr (some 169)))], [.inl (nI k), .inr (.inr (mu_r H 169 16))], H)) (C := [mu_is H (some 169) 1]) rfl (show mu_is H (some 169) 1 from h9) ?_
    refine mw_fr (f' := (15, [(2, .inl (nI k)), (1, .inr (.inr (some s))), (0, .inr (.inr (some 169)))], [.inl (nI k), .inr (.inr (some r))], H)) (by first | (rw [hr]; done) | (rw [hr]; rfl)) ?_
    refine mw_go mu_g442 (k := 2) (f1 := (17, [(2, .inl (nI k)), (1, .inr (.inr (some s))), (0, .inr (.inr (some 169)))], [.inr (.inr (some s)), .inr (.inr (mu_r H r (nI k).toNatClampNeg))], H)) (C := [mu_is H (some r) (mu_k H r), 103 ≤ mu_k H r ∧ mu_k H r ≤ 110 ∧ mu_k H r ≠ 108, vp_in (nI k) (mu_n H r)]) rfl (show (mu_is H (some r) (mu_k H r)) ∧ (103 ≤ mu_k H r ∧ mu_k H r ≤ 110 ∧ mu_k H r ≠ 108) ∧ (vp_in (nI k) (mu_n H r)) from ⟨a1, a2, a3⟩) ?_
    refine mw_fr (f' := (17, [(2, .inl (nI k)), (1, .inr (.inr (some s))), (0, .inr (.inr (some 169)))], [.inr (.inr (some s)), .inr (.inr (some u))], H)) (by first | (rw [u4]; done) | (rw [u4]; rfl)) ?_
    refine mw_cS rfl (by decide) u2.1 (sb_equals (d := d) u2 hb (Nat.lt_trans u3 (by decide)) hb2) (fun x H1 q => ?_)
    rw [q.1, q.2]
    refine mw_if (P := (if sy.getD k [] = b then 1 else 0) = 0) (a := 25) (b := 23) (fun _ => rfl) trivial (fun h2 => ?_) (fun h2 => ?_)
    · -- 25
      refine mw_go mu_g442 (k := 2) (f1 := (2, [(2, .inl ((nI k) + 1)), (1, .inr (.inr (some s))), (0, .inr (.inr (some 169)))], [], H)) (C := []) rfl trivial ?_
      refine mw_sub (L' := [(2, .inl (nI (k + 1))), (1, .inr (.inr (some s))), (0, .inr (.inr (some 169)))]) (by intro x hx; simp only [List.mem_cons, List.not_mem_nil, or_false] at hx ⊢; rcases hx with rfl | rfl | rfl <;> simp [nI_add, show (1 : Int32) = nI 1 from rfl]) ?_
      have e : ¬ sy.getD k [] = b := fun e => by rw [if_pos e] at h2; exact absurd h2 (by decide)
      rw [fid, if_neg (show ¬ decide (sy.getD k [] = b) = true by rw [decide_eq_true_iff]; exact e)]
      exact rp_sym0 h9 hr hk hn hc he hb hb2 m (k + 1) (by omega)
    · -- 23
      refine mw_go mu_g442 (k := 1) (f1 := (24, [(2, .inl (nI k)), (1, .inr (.inr (some s))), (0, .inr (.inr (some 169)))], [.inl (nI k)], H)) (C := []) rfl trivial ?_
      have e : sy.getD k [] = b := Decidable.byContradiction (fun e => h2 (if_neg e))
      exact mw_of (fun _ => mu_ret rfl trivial ⟨_, _, rfl, (by rw [fid, if_pos (show decide (sy.getD k [] = b) = true by rw [decide_eq_true_iff]; exact e)]), rfl⟩)
theorem rp_symbol {d s : Nat} {H : mu_H} {sy : List (List Int32)} {b : List Int32} (h9 : mu_is H (some 169) 1) (hy : syl H sy) (hb : sb H (some s) b) (hb2 : b.length < 2 ^ 31) : mu_TI (mu_D (d + 3)) 442 [.inr (.inr (some 169)), .inr (.inr (some s))] H (fun x H1 => x = fid (fun i => decide (sy.getD i [] = b)) sy.length 0 ∧ H1 = H) := by
  obtain ⟨r, hr, hk, hn, hc, he⟩ := hy
  refine mu_meth (M := mu_m442) rfl rfl ?_
  refine mw_ht (mu_fn_of (show [0, 1].Nodup by decide)) ?_
  refine mw_go mu_g442 (k := 2) (f1 := (2, [(2, .inl (0 : Int32)), (0, .inr (.inr (some 169))), (1, .inr (.inr (some s)))], [], H)) (C := []) rfl trivial ?_
  refine mw_sub (L' := [(2, .inl (nI 0)), (1, .inr (.inr (some s))), (0, .inr (.inr (some 169)))]) (by simp [nI]) ?_
  exact rp_sym0 h9 hr hk hn hc he hb hb2 sy.length 0 (Nat.zero_add _)
