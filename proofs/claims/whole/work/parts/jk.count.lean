/-! count -/
section CountR
variable {H : mu_H} {m d w : Nat}
theorem dm_lt0 (hg : gi H) (hm : m = 2 ∨ m = 41) : (ak m H 15).1 ≤ 67108864 := by
  rw [ak_n (by decide)]
  exact rw_n (hg.w (ps_wm hm (show 15 < 19 by decide)))
theorem md_bits3 (h0 : um m H) : mu_TI (mu_D (d + 2)) 131 [.inr (.inr (some m))] H (fun x H1 => H = H1 ∧ x = nI (sm (bz (ak m H)) 0 (ak m H 15).1)) := by
  have h : gi H ∧ ((m = 2 ∨ m = 41) ∧ True) := ⟨h0.1.1, h0.2, trivial⟩
  have b15 : (ak m H 15).1 ≤ 67108864 := dm_lt0 h0.1.1 h0.2
  refine mu_meth (M := mu_m131) rfl rfl ?_
  refine mw_ht (mu_fn_of (show [0].Nodup by decide)) ?_
  refine mw_go mu_g131 (k := 4) (f1 := (4, [(2, .inl (0 : Int32)), (1, .inl (0 : Int32)), (0, .inr (.inr (some m)))], [], H)) (C := []) rfl trivial ?_
  show mu_W _ _ (4, [(2, .inl (nI 0)), (1, .inl (nI 0)), (0, .inr (.inr (some m)))], [], H) _
  refine mw_sub (L' := [(1, .inl (nI 0)), (2, .inl (nI 0)), (0, .inr (.inr (some m)))]) (by simp) ?_
  refine mw_down (α := Nat × Nat) (fun zs => (4, [(1, .inl (nI zs.1)), (2, .inl (nI zs.2)), (0, .inr (.inr (some m)))], [], H)) (fun zs => ((ak m H) 15).1 - zs.2) (fun zs => (zs.1 = sm (bz (ak m H)) 0 zs.2) ∧ (zs.2 ≤ ((ak m H) 15).1)) (fun zs hs ih => ?_) (0, 0) ⟨(show 0 = sm (bz (ak m H)) 0 0 from rfl), (show 0 ≤ ((ak m H) 15).1 from Nat.zero_le _)⟩
  obtain ⟨t, v⟩ := zs
  obtain ⟨ht, hv⟩ := hs
  have ht : t = sm (bz (ak m H)) 0 v := ht
  have hv : v ≤ ((ak m H) 15).1 := hv
  show mu_W _ _ (4, [(1, .inl (nI t)), (2, .inl (nI v)), (0, .inr (.inr (some m)))], [], H) _
  refine mw_go mu_g131 (k := 3) (f1 := (9, [(1, .inl (nI t)), (2, .inl (nI v)), (0, .inr (.inr (some m)))], [.inr (.inr (mu_r H m 15)), .inl (nI v)], H)) (C := [mu_is H (some m) 6]) rfl (show mu_is H (some m) 6 from (show mu_is H (some m) 6 from gi_im h.1 h.2.1)) ?_
  rw [(show mu_r H m 15 = some (m + 31) from (gi_mr h.1 h.2.1 (j := 15) (by decide)).trans (congrArg some (by omega)))]
  refine mw_go mu_g131 (k := 1) (f1 := (12, [(1, .inl (nI t)), (2, .inl (nI v)), (0, .inr (.inr (some m)))], [.inl (mu_i H (m + 31) 2), .inl (nI v)], H)) (C := [mu_is H (some (m + 31)) 10]) rfl (show mu_is H (some (m + 31)) 10 from (h.1.w (md_w15 h.2.1)).1) ?_
  rw [(show mu_i H (m + 31) 2 = nI ((ak m H) 15).1 from um.size (j := 15) h0 rfl (by decide) (show m + 31 = ra m 15 from rfl))]
  refine mw_if (P := (nI v) < (nI ((ak m H) 15).1)) (a := 15) (b := 41) (fun _ => rfl) trivial (fun h1 => ?_) (fun h1 => ?_)
  · -- 15: (nI v) < (nI ((ak m H) 15).1)
    have hvN : v < ((ak m H) 15).1 := (nI_ltI (by omega) (by omega)).mp h1
    refine mw_go mu_g131 (k := 4) (f1 := (22, [(1, .inl (nI t)), (2, .inl (nI v)), (0, .inr (.inr (some m)))], [.inr (.inr (mu_r H m 15)), .inl (32 : Int32), .inl (nI t)], H)) (C := [mu_is H (some m) 6]) rfl (show mu_is H (some m) 6 from (show mu_is H (some m) 6 from gi_im h.1 h.2.1)) ?_
    rw [(show mu_r H m 15 = some (m + 31) from (gi_mr h.1 h.2.1 (j := 15) (by decide)).trans (congrArg some (by omega)))]
    refine mw_go mu_g131 (k := 2) (f1 := (24, [(1, .inl (nI t)), (2, .inl (nI v)), (0, .inr (.inr (some m)))], [.inl (1 : Int32), .inl (nI v), .inr (.inr (some (m + 31))), .inl (32 : Int32), .inl (nI t)], H)) (C := []) rfl trivial ?_
    refine mw_cIe (fun _ => rfl) (show mu_is H (some (m + 31)) 10 from (h.1.w (md_w15 h.2.1)).1) (show mu_TI _ 46 _ H (fun y H1 => y = tget (ak m H 15) (nI v) 1 ∧ H1 = H) from um.getr (d := d) (U := ud m H) h0 rfl (j := 15) (by decide) rfl (nI v) (c := 1) (by decide)) ?_
    rw [show (tget ((ak m H) 15) (nI v) 1) = (((ak m H) 15).2 v 1) from tget_nI (by omega)]
    refine mw_go mu_g131 (k := 2) (f1 := (29, [(1, .inl (nI t)), (2, .inl (nI v)), (0, .inr (.inr (some m)))], [.inl ((((ak m H) 15).2 v 1) - (1 : Int32)), .inl (32 : Int32), .inl (nI t)], H)) (C := []) rfl trivial ?_
    refine mw_cIe (fun _ => rfl) trivial (ji_lz_ok (d := d) ((((ak m H) 15).2 v 1) - (1 : Int32))) ?_
    refine mw_go mu_g131 (k := 2) (f1 := (34, [(1, .inl (nI t)), (2, .inl (nI v)), (0, .inr (.inr (some m)))], [.inl ((nI t) + ((32 : Int32) - (ji_lz ((((ak m H) 15).2 v 1) - (1 : Int32)))))], H)) (C := []) rfl trivial ?_
    rw [show ((nI t) + ((32 : Int32) - (ji_lz ((((ak m H) 15).2 v 1) - (1 : Int32))))) = nI (t + bz (ak m H) v) from by rw [(bl_ok (((ak m H) 15).2 v 1)).1]; exact nI_add t _]
    obtain ⟨tt, htt⟩ : ∃ tt, tt = t + bz (ak m H) v := ⟨_, rfl⟩
    rw [← htt]
    refine mw_go mu_g131 (k := 3) (f1 := (4, [(2, .inl ((nI v) + 1)), (1, .inl (nI tt)), (0, .inr (.inr (some m)))], [], H)) (C := []) rfl trivial ?_
    rw [nI_1 v]
    exact mw_sub (by simp) (ih (tt, v + 1) ⟨(show tt = sm (bz (ak m H)) 0 (v + 1) from (by rw [htt, ht]; exact congrArg (fun z => sm (bz (ak m H)) 0 v + bz (ak m H) z) (Nat.zero_add v).symm)), (show (v + 1) ≤ ((ak m H) 15).1 from by omega)⟩ (by show ((ak m H) 15).1 - (v + 1) < ((ak m H) 15).1 - v; omega))
  · -- 41: not (nI v) < (nI ((ak m H) 15).1)
    have hvN : v = ((ak m H) 15).1 := Nat.le_antisymm hv (Nat.le_of_not_lt (fun z => h1 ((nI_ltI (by omega) (by omega)).mpr z)))
    refine mw_go mu_g131 (k := 1) (f1 := (42, [(1, .inl (nI t)), (2, .inl (nI v)), (0, .inr (.inr (some m)))], [.inl (nI t)], H)) (C := []) rfl trivial ?_
    exact mw_of (fun _ => mu_ret rfl trivial ⟨_, _, rfl, rfl, by rw [ht, hvN]⟩)
theorem cnt_7 (hw : w ≤ 7) (h : (nI w).toInt < 0 ∨ 6 < (nI w).toInt) : w = 7 := by
  rw [nI_toInt (by omega)] at h
  omega
/-- count, whatever the state -/
theorem pv_countR (h : um m H) (h4 : mu_r H 0 4 = some m) (h3 : ¬ mu_i H 0 3 = 0) (hw : w ≤ 7) : mu_MT (mu_D (d + 22)) 69 [.inr (.inr (some 0)), .inl (nI w)] H (fun r => r = (.inl (some (.inl (if w = 0 then nI ((ud m H).1 15).1 else if w = 1 then nI (sm (bz (ud m H).1) 0 ((ud m H).1 15).1) else if w = 2 then nI ((ud m H).1 11).1 else if w = 3 then nI ((ud m H).1 17).1 else if w = 4 then nI ((ud m H).1 16).1 else if w = 5 then (ud m H).2.1 158 11 else if w = 6 then (ud m H).2.1 158 12 else if mu_i H 0 13 < 0 then 0 else 1))), H)) := by
  have sz : ∀ j r, j < 28 → r = ra m j → mu_i H r 2 = nI ((ud m H).1 j).1 := fun j r hj hr => um.size (j := j) h rfl hj hr
  have eq : ∀ v, v < 8 → (nI w = nI v ↔ w = v) := fun v hv => nI_eq (by omega) (by omega)
  refine pv_countS (A1 := fun x K => H = K ∧ x = nI (sm (bz (ak m H)) 0 (ak m H 15).1)) h.1.1 h.2 h4 (nI w) (fun _ _ _ _ => md_bits3 (d := d + 19) h) (fun x K y => by rw [← y.1]; exact h.1.1) (fun y => absurd y (nI_pos (by omega))) (fun _ y => absurd ((nI_ltI (a := 7) (by decide) (by omega)).mp y) (by omega)) (fun _ _ _ y c => ?_) (fun _ _ _ y c => ?_) (fun _ _ _ y => ?_) (fun x K k _ _ y => ?_) (fun _ _ _ y => ?_) (fun _ _ _ y => ?_) (fun _ _ _ y => ?_) (fun _ _ _ y => ?_) (fun _ _ _ y => ?_) (fun _ _ y => absurd y h3)
  · have e := cnt_7 hw y
    subst e
    rw [if_neg (show ¬ (7 : Nat) = 0 by decide), if_neg (show ¬ (7 : Nat) = 1 by decide), if_neg (show ¬ (7 : Nat) = 2 by decide), if_neg (show ¬ (7 : Nat) = 3 by decide), if_neg (show ¬ (7 : Nat) = 4 by decide), if_neg (show ¬ (7 : Nat) = 5 by decide), if_neg (show ¬ (7 : Nat) = 6 by decide), if_pos c]
  · have e := cnt_7 hw y
    subst e
    rw [if_neg (show ¬ (7 : Nat) = 0 by decide), if_neg (show ¬ (7 : Nat) = 1 by decide), if_neg (show ¬ (7 : Nat) = 2 by decide), if_neg (show ¬ (7 : Nat) = 3 by decide), if_neg (show ¬ (7 : Nat) = 4 by decide), if_neg (show ¬ (7 : Nat) = 5 by decide), if_neg (show ¬ (7 : Nat) = 6 by decide), if_neg c]
  · have e := (eq 0 (by decide)).mp y
    subst e
    rw [if_pos rfl, sz 15 (m + 31) (by decide) rfl]
  · have e := (eq 1 (by decide)).mp y
    subst e
    rw [if_neg (show ¬ (1 : Nat) = 0 by decide), if_pos rfl, ← k.1, k.2]
    rfl
  · have e := (eq 2 (by decide)).mp y
    subst e
    rw [if_neg (show ¬ (2 : Nat) = 0 by decide), if_neg (show ¬ (2 : Nat) = 1 by decide), if_pos rfl, sz 11 (m + 23) (by decide) rfl]
  · have e := (eq 3 (by decide)).mp y
    subst e
    rw [if_neg (show ¬ (3 : Nat) = 0 by decide), if_neg (show ¬ (3 : Nat) = 1 by decide), if_neg (show ¬ (3 : Nat) = 2 by decide), if_pos rfl, sz 17 (m + 35) (by decide) rfl]
  · have e := (eq 4 (by decide)).mp y
    subst e
    rw [if_neg (show ¬ (4 : Nat) = 0 by decide), if_neg (show ¬ (4 : Nat) = 1 by decide), if_neg (show ¬ (4 : Nat) = 2 by decide), if_neg (show ¬ (4 : Nat) = 3 by decide), if_pos rfl, sz 16 (m + 33) (by decide) rfl]
  · have e := (eq 5 (by decide)).mp y
    subst e
    rw [if_neg (show ¬ (5 : Nat) = 0 by decide), if_neg (show ¬ (5 : Nat) = 1 by decide), if_neg (show ¬ (5 : Nat) = 2 by decide), if_neg (show ¬ (5 : Nat) = 3 by decide), if_neg (show ¬ (5 : Nat) = 4 by decide), if_pos rfl, (ud_i (m := m) (P := 158) (j := 11) rfl rfl)]
  · have e := (eq 6 (by decide)).mp y
    subst e
    rw [if_neg (show ¬ (6 : Nat) = 0 by decide), if_neg (show ¬ (6 : Nat) = 1 by decide), if_neg (show ¬ (6 : Nat) = 2 by decide), if_neg (show ¬ (6 : Nat) = 3 by decide), if_neg (show ¬ (6 : Nat) = 4 by decide), if_neg (show ¬ (6 : Nat) = 5 by decide), if_pos rfl, (ud_i (m := m) (P := 158) (j := 12) rfl rfl)]
end CountR
