/-! SOUND AS DATA: a TEXT that is well formed -/
/-- as rl, but Sound looks at another Model, and its main is another one -/
def rv (m : Nat) (C : Nat → Nat) (H H1 : mu_H) : Prop := gk (rS m) H H1 ∧ (∀ j, j ≠ 2 → mu_r H1 92 j = mu_r H 92 j) ∧ (∀ j, mu_r H1 91 j = mu_r H 91 j) ∧ ∀ j, j < 28 → gi_cap H1 (ra m j) ≤ max (gi_cap H (ra m j)) (C j)
/-- the first k MODULES have been looked at -/
def WF (X : Ts) (k : Nat) (s : Ts) : Prop := (∀ q, q < k → ∀ v, sp X q 2 ≤ v → v < sp X (q + 1) 2 → VM s v) ∧ ∀ q, q < k → ∀ n, sp X q 4 ≤ n → n < sp X (q + 1) 4 → LV s q n
section Well
variable {H H1 H2 : mu_H} {m : Nat} {C : Nat → Nat} {X s s1 s2 s3 : Ts}
theorem rv.on (h : rv m C H H1) (h' : rl m C H1 H2) : rv m C H H2 := by
  obtain ⟨a, b, c, e⟩ := h
  obtain ⟨a', b', c', e', f'⟩ := h'
  refine ⟨a.trans a', fun j hj => (b' j).trans (b j hj), fun j => (c' j).trans (c j), fun j hj => ?_⟩
  have h1 := e j hj
  have h2 := e' j hj
  omega
theorem dm.main (h : dm m H) (hr : rv m C H1 H) {y : Int32} : dm m (mu_si H 92 3 y) ∧ rv m C H1 (mu_si H 92 3 y) ∧ ak m (mu_si H 92 3 y) = ak m H ∧ ∀ i, mu_i (mu_si H 92 3 y) 95 i = mu_i H 95 i := by
  have hg : gi (mu_si H 92 3 y) := h.1.si (k := 12) rfl rfl
  have hk : gk (fun p => Nat.beq p 92) H (mu_si H 92 3 y) := gk.si h.1 (k := 12) rfl rfl
  obtain ⟨a, b, c, e⟩ := hr
  refine ⟨⟨hg, h.2.1, h.2.2.1, h.2.2.2⟩, ⟨a.trans (hk.mono (fun p hp => by rw [Nat.eq_of_beq_eq_true hp]; exact decide_eq_true (Or.inr (Or.inl rfl)))), b, c, e⟩, gT_keep (ra_ok h.2.1) hk (fun j hj => beq_f (ra_91 h.2.1 hj).2.1), fun i => ?_⟩
  rw [mu_i_si, if_neg (fun z => by omega)]
theorem dm.reset (hg : gi H) (hm : m = 2 ∨ m = 41) (h91 : mu_r H 91 3 = some m) : dm m (so_rst m H) ∧ rv m C H (so_rst m H) ∧ (∀ j, j ≠ 19 → ak m (so_rst m H) j = ak m H j) ∧ (ak m (so_rst m H) 19).1 = 0 ∧ ∀ i, i < 512 → mu_i (so_rst m H) 95 i = -1 := by
  have g1 : gi (mu_sr H 92 2 (some m)) := hg.sr rfl rfl (by decide)
  have k1 : gk (fun p => Nat.beq p 92 || Nat.beq p 93) H (mu_sr H 92 2 (some m)) := gk.sr hg (k := 12) rfl rfl (by decide) rfl (fun q hq => by cases hq; exact Or.inl (by omega))
  have g2 : gi (mu_si (mu_sr H 92 2 (some m)) 93 2 0) := (g1.size (r := 93) (W := 5) (k := 0) rfl (Nat.zero_le _)).1
  have k2 : gk (fun p => Nat.beq p 92 || Nat.beq p 93) H (mu_si (mu_sr H 92 2 (some m)) 93 2 0) := k1.trans (gk.si g1 (k := 10) rfl rfl)
  have ho : mu_onl (mu_si (mu_sr H 92 2 (some m)) 93 2 0) (so_rst m H) 95 := ⟨rfl, rfl, fun p j hp => by unfold so_rst; rw [mu_i_fill, if_neg (fun z => hp z.1)], rfl⟩
  have e95 : mu_r (mu_si (mu_sr H 92 2 (some m)) 93 2 0) 92 1 = some 95 := g2.r rfl
  have g3 : gi (so_rst m H) := g2.onl ho (Or.inl (g2.a (p := 95) (x := (100, 512)) rfl).1.2.2)
  have k3 : gk (fun p => Nat.beq p 92 || Nat.beq p 93) (mu_si (mu_sr H 92 2 (some m)) 93 2 0) (so_rst m H) := gk.onla (p := 92) (j := 1) g2 (by rw [e95]; exact ho) rfl rfl
  have k13 := k2.trans k3
  have er : ∀ p j, ¬ (p = 92 ∧ j = 2) → mu_r (so_rst m H) p j = mu_r H p j := fun p j hn => by
    show mu_r (mu_sr H 92 2 (some m)) p j = _
    rw [mu_r_sr, if_neg hn]
  have hS : ∀ j, j < 28 → j ≠ 19 → (fun p => Nat.beq p 92 || Nat.beq p 93) (ra m j) = false := fun j hj hne => by
    have e2 : ra m j ≠ 93 := (ra_ok hm).2 j 19 hj (by decide) hne
    show (Nat.beq (ra m j) 92 || Nat.beq (ra m j) 93) = false
    rw [beq_f (ra_91 hm hj).2.1, beq_f e2]
    rfl
  have hcap : ∀ r, r ≠ 92 → gi_cap (so_rst m H) r = gi_cap H r := fun r hr => by
    unfold gi_cap
    rw [er r 1 (fun z => hr z.1)]
    rfl
  refine ⟨⟨g3, hm, ?_, (er 91 3 (by decide)).trans h91⟩, ⟨k13.mono (fun p hp => ?_), fun j hj => er 92 j (fun z => hj z.2), fun j => er 91 j (fun z => by omega), fun j hj => ?_⟩, fun j hj => ?_, ?_, fun i hi => ?_⟩
  · show mu_r (mu_sr H 92 2 (some m)) 92 2 = some m
    rw [mu_r_sr, if_pos ⟨rfl, rfl⟩]
  · have hp : (Nat.beq p 92 || Nat.beq p 93) = true := hp
    rw [Bool.or_eq_true] at hp
    rcases hp with e | e
    · rw [Nat.eq_of_beq_eq_true e]; exact decide_eq_true (Or.inr (Or.inl rfl))
    · rw [Nat.eq_of_beq_eq_true e]; exact decide_eq_true (Or.inr (Or.inr (Or.inl rfl)))
  · rw [hcap _ (ra_91 hm hj).2.1]
    exact Nat.le_max_left _ _
  · by_cases h27 : j < 28
    · show gT (ra m) wa 28 (so_rst m H) j = gT (ra m) wa 28 H j
      rw [gT_at h27, gT_at h27]
      exact k13.tb ((ra_ok hm).1 j h27) (hS j h27 hj)
    · show gT (ra m) wa 28 (so_rst m H) j = gT (ra m) wa 28 H j
      rw [gT_out h27, gT_out h27]
  · rw [ak_n (by decide)]
    show gi_sz (so_rst m H) 93 = 0
    unfold gi_sz
    rw [ho.2.2.1 93 2 (by decide), mu_i_si, if_pos ⟨rfl, rfl⟩]
    rfl
  · unfold so_rst
    rw [mu_i_fill, if_pos ⟨rfl, by omega, by omega⟩]
theorem ak_ab {j : Nat} (hj : j < 11) : ak m H j = ab m H j := by
  have e1 : ak m H j = tb H (m + 1 + 2 * j) (wa j) := by
    show gT (ra m) wa 28 H j = _
    rw [gT_at (by omega)]
    unfold ra
    rw [if_pos (by omega)]
  have e2 : ab m H j = tb H (m + 1 + 2 * j) (ps_W j) := by
    show (if j < 13 then tb H (rr m j) (wd j) else (0, fun _ _ => 0)) = _
    rw [if_pos (by omega)]
    unfold rr wd
    rw [if_neg (by omega), if_neg (by omega), if_neg (by omega), if_neg (by omega)]
  rw [e1, e2, show wa j = ps_W j from (show ∀ j, j < 11 → wa j = ps_W j by decide) j hj]
theorem CT_ak (h : CT (ab m H)) : CT (ak m H) := h.same (fun j hj => ak_ab hj)
theorem WF.step {k : Nat} (h : WF X k s) (hc : Cm X) (hk : k < (X 1).1) (e1 : ∀ j, j ≠ 19 → s1 j = s j) (h4 : c4 X k (sp X (k + 1) 2) s1 s2) (h7 : c7 X k (sp X (k + 1) 4) s2 s3) (q1 : eqc s s1) (q2 : eqc s1 s2) (q3 : eqc s2 s3) : WF X (k + 1) s3 := by
  refine ⟨fun q hq v a b => ?_, fun q hq n a b => ?_⟩
  · by_cases hqk : q < k
    · have hmn := hc.mono (c := 2) (by decide) (by decide) (show q + 1 ≤ k by omega) (by omega)
      exact (((h.1 q hqk v a b).keep q1 (by rw [e1 3 (by decide)])).keep q2 (h4.2.1 v (by omega))).keep q3 (h7.2.1 v)
    · have : q = k := by omega
      subst this
      exact (h4.2.2 v a b).keep q3 (h7.2.1 v)
  · by_cases hqk : q < k
    · have hmn := hc.mono (c := 4) (by decide) (by decide) (show q + 1 ≤ k by omega) (by omega)
      exact (((h.2 q hqk n a b).keep q1 (by rw [e1 7 (by decide)])).keep q2 (by rw [h4.1 7 (by decide) (by decide)])).keep q3 (h7.2.2.1 n (by omega))
    · have : q = k := by omega
      subst this
      exact h7.2.2.2 n a b
theorem cnt_zero : ∀ n, (∀ k, k < n → (s 1).2 k 8 = 0) → cnt s n = 0
  | 0, _ => rfl
  | n + 1, h => by
    show cnt s n + (if (s 1).2 n 8 = 0 then 0 else 1) = 0
    rw [if_pos (h n (by omega)), cnt_zero n (fun k hk => h k (by omega))]
/-- what a TEXT that is well formed comes to -/
def WL (X : Ts) (s : Ts) (x : Int32) : Prop := (∃ k, k < (X 1).1 ∧ x = nI k ∧ sp X (k + 1) 1 ≤ sp X k 1) ∧ VMs s ∧ (∀ q, q < (X 1).1 → ∀ n, sp X q 4 ≤ n → n < sp X (q + 1) 4 → LV s q n) ∧ RKs s ∧ ∀ k, k < (X 1).1 → ¬ (s 1).2 k 8 = 0
end Well
section SoundWell3
variable {H : mu_H} {d m : Nat} {C : Nat → Nat}
theorem so_well2 (hg : gi H) (hm : m = 2 ∨ m = 41) (h91 : mu_r H 91 3 = some m) (hc : CT (ak m H)) (hC : 10 * ((ak m H 1).1 + (ak m H 2).1 + (ak m H 3).1 + (ak m H 6).1 + (ak m H 4).1) + 5 ≤ C 19) (hC8 : C 19 ≤ 8388608) : mu_TI (mu_D (d + 8)) 171 [.inr (.inr (some 92)), .inr (.inr (some m))] H (fun x H1 => (x = 0 ∨ x = 1) ∧ dm m H1 ∧ rv m C H H1 ∧ SI m (ak m H) H1 ∧ (x = 1 → WL (ak m H) (ak m H1) (mu_i H1 92 3))) := by
  have gA : gi (mu_sr H 92 2 (some m)) := hg.sr rfl rfl (by decide)
  have gB : gi (mu_si (mu_sr H 92 2 (some m)) 93 2 0) := (gA.size (r := 93) (W := 5) (k := 0) rfl (Nat.zero_le _)).1
  refine mu_meth (M := mu_m171) rfl rfl ?_
  refine mw_ht (mu_fn_of (show [0, 1].Nodup by decide)) ?_
  refine mw_go mu_g171 (k := 5) (f1 := (9, [(0, .inr (.inr (some 92))), (1, .inr (.inr (some m)))], [.inr (.inr (mu_r (mu_sr H 92 2 (some m)) 92 0))], mu_sr H 92 2 (some m))) (C := [mu_is H (some 92) 12, mu_is (mu_sr H 92 2 (some m)) (some 92) 12]) rfl ⟨hg.is rfl, gA.is rfl⟩ ?_
  rw [gA.r (p := 92) (j := 0) (q := 93) rfl]
  refine mw_cVe (fun _ => rfl) (show mu_is (mu_sr H 92 2 (some m)) (some 93) 10 from gA.is rfl) (rw_clear_ok (d := d + 6) (gA.w (r := 93) (W := 5) rfl)) ?_
  refine mw_go mu_g171 (k := 2) (f1 := (16, [(0, .inr (.inr (some 92))), (1, .inr (.inr (some m)))], [.inr (.inr (mu_r (mu_si (mu_sr H 92 2 (some m)) 93 2 0) 92 1))], mu_si (mu_sr H 92 2 (some m)) 93 2 0)) (C := [mu_is (mu_si (mu_sr H 92 2 (some m)) 93 2 0) (some 92) 12]) rfl (show mu_is (mu_si (mu_sr H 92 2 (some m)) 93 2 0) (some 92) 12 from gB.is rfl) ?_
  rw [gB.r (p := 92) (j := 1) (q := 95) rfl]
  refine mw_go mu_g171 (k := 1) (f1 := (17, [(0, .inr (.inr (some 92))), (1, .inr (.inr (some m)))], [.inl (-1 : Int32), .inr (.inr (some 95))], mu_si (mu_sr H 92 2 (some m)) 93 2 0)) (C := []) rfl trivial ?_
  refine mw_cVe (fun _ => rfl) trivial (ar_fill_ok (d := d + 6) (o := some 95) (n := 512) (v := -1) (gB.a (p := 95) (x := (100, 512)) rfl).1 (gB.a (p := 95) (x := (100, 512)) rfl).2 (by decide)) ?_
  obtain ⟨r1, hrv, r3, r4, r5⟩ := dm.reset (C := C) hg hm h91
  show mu_W _ _ (20, [(0, .inr (.inr (some 92))), (1, .inr (.inr (some m)))], [], so_rst m H) _
  refine mw_go mu_g171 (k := 4) (f1 := (24, [(3, .inl (0 : Int32)), (2, .inl (1 : Int32)), (0, .inr (.inr (some 92))), (1, .inr (.inr (some m)))], [], so_rst m H)) (C := []) rfl trivial ?_
  generalize so_rst m H = R at r1 hrv r3 r4 r5 ⊢
  have hIR : SI m (ak m H) R := ⟨⟨fun i hi => Or.inl (r5 i hi), fun r hr => by omega⟩, fun r hr => by omega, eqc.same (fun j hj => r3 j (by omega))⟩
  have hM : (ak m H 1).1 ≤ 67108864 := by rw [← hIR.n (j := 1) (by decide)]; exact r1.lt rfl (by decide)
  have hP : ∀ q c, q ≤ (ak m H 1).1 → 1 ≤ c → c ≤ 6 → sp (ak m H) q c ≤ (ak m H (tabc c)).1 := fun q c hq h1 h6 => by
    have hx := hc.1.mono h1 h6 hq (Nat.le_refl _)
    have hy : sp (ak m H) (ak m H 1).1 c = (ak m H (tabc c)).1 := by unfold sp; rw [if_neg (Nat.lt_irrefl _)]
    omega
  have hLs : ls2 (ak m H 3) (ak m H 3).1 ≤ (ak m H 4).1 := hc.2.2.2.2.2
  show mu_W _ _ (24, [(3, .inl (nI 0)), (2, .inl (1 : Int32)), (0, .inr (.inr (some 92))), (1, .inr (.inr (some m)))], [], R) _
  refine mw_sub (L' := [(2, .inl (1 : Int32)), (3, .inl (nI 0)), (0, .inr (.inr (some 92))), (1, .inr (.inr (some m)))]) (by simp) ?_
  refine mw_down (α := Int32 × Nat × mu_H) (fun zs => (24, [(2, .inl zs.1), (3, .inl (nI zs.2.1)), (0, .inr (.inr (some 92))), (1, .inr (.inr (some m)))], [], zs.2.2)) (fun zs => ((ak m H) 1).1 - zs.2.1) (fun zs => dm m zs.2.2 ∧ rl m C R zs.2.2 ∧ (zs.1 = 0 ∨ zs.1 = 1) ∧ (zs.2.1 ≤ ((ak m H) 1).1) ∧ (SI m (ak m H) zs.2.2) ∧ (∀ j, j ≠ 19 → ak m zs.2.2 j = ak m H j) ∧ ((ak m zs.2.2 19).1 ≤ zs.2.1)) (fun zs hza iha => ?_) ((1 : Int32), 0, R) ⟨r1, (rl.refl m C R), (show (1 : Int32) = 0 ∨ (1 : Int32) = 1 from (Or.inr rfl)), (show 0 ≤ ((ak m H) 1).1 from by omega), (show SI m (ak m H) R from hIR), (show ∀ j, j ≠ 19 → ak m R j = ak m H j from r3), (show (ak m R 19).1 ≤ 0 from (by rw [r4]; exact Nat.zero_le _))⟩
  obtain ⟨f, k, Hsa⟩ := zs
  obtain ⟨hpa, hta, hf, hk1, hIs, hsm, hz⟩ := hza
  have hpa : dm m Hsa := hpa
  have hta : rl m C R Hsa := hta
  have hf : f = 0 ∨ f = 1 := hf
  have hk1 : k ≤ ((ak m H) 1).1 := hk1
  have hIs : SI m (ak m H) Hsa := hIs
  have hsm : ∀ j, j ≠ 19 → ak m Hsa j = ak m H j := hsm
  have hz : (ak m Hsa 19).1 ≤ k := hz
  show mu_W _ _ (24, [(2, .inl f), (3, .inl (nI k)), (0, .inr (.inr (some 92))), (1, .inr (.inr (some m)))], [], Hsa) _
  refine mw_go mu_g171 (k := 3) (f1 := (29, [(2, .inl f), (3, .inl (nI k)), (0, .inr (.inr (some 92))), (1, .inr (.inr (some m)))], [.inr (.inr (mu_r Hsa 92 2)), .inl (nI k)], Hsa)) (C := [mu_is Hsa (some 92) 12]) rfl (show mu_is Hsa (some 92) 12 from hpa.1.is rfl) ?_
  rw [hpa.2.2.1]
  refine mw_go mu_g171 (k := 1) (f1 := (32, [(2, .inl f), (3, .inl (nI k)), (0, .inr (.inr (some 92))), (1, .inr (.inr (some m)))], [.inr (.inr (mu_r Hsa m 1)), .inl (nI k)], Hsa)) (C := [mu_is Hsa (some m) 6]) rfl (show mu_is Hsa (some m) 6 from (show mu_is Hsa (some m) 6 from gi_im hpa.1 hpa.2.1)) ?_
  rw [(show mu_r Hsa m 1 = some (m + 3) from (gi_mr hpa.1 hpa.2.1 (j := 1) (by decide)).trans (congrArg some (by omega)))]
  refine mw_go mu_g171 (k := 1) (f1 := (35, [(2, .inl f), (3, .inl (nI k)), (0, .inr (.inr (some 92))), (1, .inr (.inr (some m)))], [.inl (mu_i Hsa (m + 3) 2), .inl (nI k)], Hsa)) (C := [mu_is Hsa (some (m + 3)) 10]) rfl (show mu_is Hsa (some (m + 3)) 10 from (hpa.1.w (md_w1 hpa.2.1)).1) ?_
  rw [(show mu_i Hsa (m + 3) 2 = nI ((ak m Hsa) 1).1 from hpa.size rfl (j := 1) (by decide))]
  refine mw_if (P := (nI k) < (nI ((ak m Hsa) 1).1)) (a := 38) (b := 67) (fun _ => rfl) trivial (fun h1 => ?_) (fun h1 => ?_)
  · -- 38: (nI k) < (nI ((ak m Hsa) 1).1)
    rw [hIs.n (j := 1) (by decide)] at h1
    have hkM : k < ((ak m H) 1).1 := (nI_ltI (by omega) (by omega)).mp h1
    have hkb := hkM
    refine mw_go mu_g171 (k := 5) (f1 := (45, [(2, .inl f), (3, .inl (nI k)), (0, .inr (.inr (some 92))), (1, .inr (.inr (some m)))], [.inr (.inr (mu_r Hsa 92 2)), .inl (-1 : Int32), .inr (.inr (some 92)), .inl f], Hsa)) (C := [mu_is Hsa (some 92) 12]) rfl (show mu_is Hsa (some 92) 12 from hpa.1.is rfl) ?_
    rw [hpa.2.2.1]
    refine mw_go mu_g171 (k := 1) (f1 := (48, [(2, .inl f), (3, .inl (nI k)), (0, .inr (.inr (some 92))), (1, .inr (.inr (some m)))], [.inr (.inr (mu_r Hsa m 1)), .inl (-1 : Int32), .inr (.inr (some 92)), .inl f], Hsa)) (C := [mu_is Hsa (some m) 6]) rfl (show mu_is Hsa (some m) 6 from (show mu_is Hsa (some m) 6 from gi_im hpa.1 hpa.2.1)) ?_
    rw [(show mu_r Hsa m 1 = some (m + 3) from (gi_mr hpa.1 hpa.2.1 (j := 1) (by decide)).trans (congrArg some (by omega)))]
    refine mw_go mu_g171 (k := 2) (f1 := (50, [(2, .inl f), (3, .inl (nI k)), (0, .inr (.inr (some 92))), (1, .inr (.inr (some m)))], [.inl (0 : Int32), .inl (nI k), .inr (.inr (some (m + 3))), .inl (-1 : Int32), .inr (.inr (some 92)), .inl f], Hsa)) (C := []) rfl trivial ?_
    refine mw_cIe (fun _ => rfl) (show mu_is Hsa (some (m + 3)) 10 from (hpa.1.w (md_w1 hpa.2.1)).1) (dm.getr (d := (d + 6)) hpa rfl (j := 1) (by decide) rfl (nI k) (c := 0) (by decide)) ?_
    refine mw_go mu_g171 (k := 2) (f1 := (56, [(2, .inl f), (3, .inl (nI k)), (0, .inr (.inr (some 92))), (1, .inr (.inr (some m)))], [.inl (nI k), .inl (6 : Int32), .inl (tget ((ak m Hsa) 1) (nI k) 0), .inl (-1 : Int32), .inr (.inr (some 92)), .inl f], Hsa)) (C := []) rfl trivial ?_
    refine mw_cI (fun _ => rfl) (show mu_is Hsa (some 92) 12 from hpa.1.is rfl) (so_add2 (C := C) (d := (d + 3)) hpa hIs (-1 : Int32) (tget ((ak m Hsa) 1) (nI k) 0) (6 : Int32) (nI k) (okm_mod (by rw [hIs.n (by decide)]; exact hM) (by rw [hIs.n (by decide)]; exact hkM)) (by omega) hC8) (fun x3 H3 q3 => ?_)
    obtain ⟨hx3, hp3, qt3, hI3, hs3, hz3⟩ := q3
    have ht3 := hta.trans qt3
    refine mw_go mu_g171 (k := 4) (f1 := (24, [(3, .inl ((nI k) + 1)), (2, .inl (f &&& x3)), (0, .inr (.inr (some 92))), (1, .inr (.inr (some m)))], [], H3)) (C := []) rfl trivial ?_
    rw [nI_1 k]
    exact mw_sub (by simp) (iha ((f &&& x3), k + 1, H3) ⟨hp3, ht3, (show (f &&& x3) = 0 ∨ (f &&& x3) = 1 from (b_and (hf) (hx3))), (show (k + 1) ≤ ((ak m H) 1).1 from by omega), (show SI m (ak m H) H3 from hI3), (show ∀ j, j ≠ 19 → ak m H3 j = ak m H j from (fun j hj => (hs3 j hj).trans (hsm j hj))), (show (ak m H3 19).1 ≤ (k + 1) from by omega)⟩ (by show ((ak m H) 1).1 - (k + 1) < ((ak m H) 1).1 - k; omega))
  · -- 67: not (nI k) < (nI ((ak m Hsa) 1).1)
    rw [hIs.n (j := 1) (by decide)] at h1
    have hkM : ¬ k < ((ak m H) 1).1 := fun z => h1 (nI_lt z (by omega))
    refine mw_go mu_g171 (k := 5) (f1 := (73, [(2, .inl f), (3, .inl (nI k)), (0, .inr (.inr (some 92))), (1, .inr (.inr (some m)))], [.inl (28 : Int32), .inl (-1 : Int32), .inr (.inr (some 92)), .inr (.inr (some 92)), .inr (.inr (some 92))], Hsa)) (C := []) rfl trivial ?_
    refine mw_cI (fun _ => rfl) (show mu_is Hsa (some 92) 12 from hpa.1.is rfl) (so_find2 (d := (d + 5)) hpa rfl hIs.1 (-1 : Int32) (28 : Int32)) (fun x4 H4 q4 => ?_)
    rcases q4 with ⟨rfl, rfl⟩ | ⟨r, hr, rfl, e0, e1, rfl⟩
    · -- (-1 : Int32)
      refine mw_cIe (fun _ => rfl) (show mu_is Hsa (some 92) 12 from hpa.1.is rfl) (so_rowOf2 (d := (d + 5)) hpa rfl (-1 : Int32)) ?_
      rw [show rwo ((ak m Hsa) 19) (-1 : Int32) = (-1 : Int32) from rfl]
      refine mw_go mu_g171 (k := 2) (f1 := (83, [(2, .inl f), (3, .inl (nI k)), (0, .inr (.inr (some 92))), (1, .inr (.inr (some m)))], [.inl f], (mu_si Hsa 92 3 (-1 : Int32)))) (C := [mu_is Hsa (some 92) 12]) rfl (show mu_is Hsa (some 92) 12 from hpa.1.is rfl) ?_
      refine mw_if (P := f = 0) (a := 130) (b := 86) (fun _ => rfl) trivial (fun h6 => ?_) (fun h6 => ?_)
      · -- 130: f = 0
        refine mw_go mu_g171 (k := 1) (f1 := (131, [(2, .inl f), (3, .inl (nI k)), (0, .inr (.inr (some 92))), (1, .inr (.inr (some m)))], [.inl (0 : Int32)], (mu_si Hsa 92 3 (-1 : Int32)))) (C := []) rfl trivial ?_
        obtain ⟨hpq, hrq, haq, hhq⟩ := hpa.main (hrv.on hta) (y := (-1 : Int32))
        have hIq : SI m (ak m H) (mu_si Hsa 92 3 (-1 : Int32)) := hIs.set hhq (by rw [haq]) (by rw [haq]; exact eqc.refl _)
        have hJq : ∀ j, j ≠ 19 → ak m (mu_si Hsa 92 3 (-1 : Int32)) j = ak m H j := fun j hj => by rw [haq]; exact hsm j hj
        have hmq : mu_i (mu_si Hsa 92 3 (-1 : Int32)) 92 3 = (-1 : Int32) := rfl
        have hzq : (ak m (mu_si Hsa 92 3 (-1 : Int32)) 19).1 ≤ ((ak m H) 1).1 := by rw [haq]; omega
        generalize (mu_si Hsa 92 3 (-1 : Int32)) = Q at hpq hrq haq hhq hIq hJq hmq hzq ⊢
        exact mw_of (fun _ => mu_ret rfl (Or.inl rfl) ⟨_, Q, rfl, Or.inl rfl, hpq, hrq.on (rl.refl m C Q), hIq, fun z => absurd z (by decide)⟩)
      · -- 86: not f = 0
        refine mw_go mu_g171 (k := 2) (f1 := (90, [(2, .inl f), (3, .inl (nI k)), (0, .inr (.inr (some 92))), (1, .inr (.inr (some m)))], [.inl (-1 : Int32)], (mu_si Hsa 92 3 (-1 : Int32)))) (C := [mu_is (mu_si Hsa 92 3 (-1 : Int32)) (some 92) 12]) rfl (show mu_is (mu_si Hsa 92 3 (-1 : Int32)) (some 92) 12 from hpa.1.is rfl) ?_
        refine mw_if (P := (-1 : Int32) < 0) (a := 130) (b := 93) (fun _ => rfl) trivial (fun h8 => ?_) (fun h8 => absurd (by decide) h8)
        refine mw_go mu_g171 (k := 1) (f1 := (131, [(2, .inl f), (3, .inl (nI k)), (0, .inr (.inr (some 92))), (1, .inr (.inr (some m)))], [.inl (0 : Int32)], (mu_si Hsa 92 3 (-1 : Int32)))) (C := []) rfl trivial ?_
        obtain ⟨hpq, hrq, haq, hhq⟩ := hpa.main (hrv.on hta) (y := (-1 : Int32))
        have hIq : SI m (ak m H) (mu_si Hsa 92 3 (-1 : Int32)) := hIs.set hhq (by rw [haq]) (by rw [haq]; exact eqc.refl _)
        have hJq : ∀ j, j ≠ 19 → ak m (mu_si Hsa 92 3 (-1 : Int32)) j = ak m H j := fun j hj => by rw [haq]; exact hsm j hj
        have hmq : mu_i (mu_si Hsa 92 3 (-1 : Int32)) 92 3 = (-1 : Int32) := rfl
        have hzq : (ak m (mu_si Hsa 92 3 (-1 : Int32)) 19).1 ≤ ((ak m H) 1).1 := by rw [haq]; omega
        generalize (mu_si Hsa 92 3 (-1 : Int32)) = Q at hpq hrq haq hhq hIq hJq hmq hzq ⊢
        exact mw_of (fun _ => mu_ret rfl (Or.inl rfl) ⟨_, Q, rfl, Or.inl rfl, hpq, hrq.on (rl.refl m C Q), hIq, fun z => absurd z (by decide)⟩)
    · -- (nI r)
      obtain ⟨kk, hkk, ekk⟩ := (hIs.2.1 r hr).1 e0
      have hk2 : kk < ((ak m H) 1).1 := by rw [← hIs.n (j := 1) (by decide)]; exact hkk
      have hr6 : r < 67108864 := Nat.lt_of_lt_of_le hr (hpa.lt rfl (by decide))
      refine mw_cIe (fun _ => rfl) (show mu_is Hsa (some 92) 12 from hpa.1.is rfl) (so_rowOf2 (d := (d + 5)) hpa rfl (nI r)) ?_
      rw [show rwo ((ak m Hsa) 19) (nI r) = nI kk from (if_neg (nI_pos (by omega))).trans ((tget_nI (by omega)).trans ekk)]
      refine mw_go mu_g171 (k := 2) (f1 := (83, [(2, .inl f), (3, .inl (nI k)), (0, .inr (.inr (some 92))), (1, .inr (.inr (some m)))], [.inl f], (mu_si Hsa 92 3 (nI kk)))) (C := [mu_is Hsa (some 92) 12]) rfl (show mu_is Hsa (some 92) 12 from hpa.1.is rfl) ?_
      refine mw_if (P := f = 0) (a := 130) (b := 86) (fun _ => rfl) trivial (fun h11 => ?_) (fun h11 => ?_)
      · -- 130: f = 0
        refine mw_go mu_g171 (k := 1) (f1 := (131, [(2, .inl f), (3, .inl (nI k)), (0, .inr (.inr (some 92))), (1, .inr (.inr (some m)))], [.inl (0 : Int32)], (mu_si Hsa 92 3 (nI kk)))) (C := []) rfl trivial ?_
        obtain ⟨hpq, hrq, haq, hhq⟩ := hpa.main (hrv.on hta) (y := (nI kk))
        have hIq : SI m (ak m H) (mu_si Hsa 92 3 (nI kk)) := hIs.set hhq (by rw [haq]) (by rw [haq]; exact eqc.refl _)
        have hJq : ∀ j, j ≠ 19 → ak m (mu_si Hsa 92 3 (nI kk)) j = ak m H j := fun j hj => by rw [haq]; exact hsm j hj
        have hmq : mu_i (mu_si Hsa 92 3 (nI kk)) 92 3 = (nI kk) := rfl
        have hzq : (ak m (mu_si Hsa 92 3 (nI kk)) 19).1 ≤ ((ak m H) 1).1 := by rw [haq]; omega
        generalize (mu_si Hsa 92 3 (nI kk)) = Q at hpq hrq haq hhq hIq hJq hmq hzq ⊢
        exact mw_of (fun _ => mu_ret rfl (Or.inl rfl) ⟨_, Q, rfl, Or.inl rfl, hpq, hrq.on (rl.refl m C Q), hIq, fun z => absurd z (by decide)⟩)
      · -- 86: not f = 0
        refine mw_go mu_g171 (k := 2) (f1 := (90, [(2, .inl f), (3, .inl (nI k)), (0, .inr (.inr (some 92))), (1, .inr (.inr (some m)))], [.inl (nI kk)], (mu_si Hsa 92 3 (nI kk)))) (C := [mu_is (mu_si Hsa 92 3 (nI kk)) (some 92) 12]) rfl (show mu_is (mu_si Hsa 92 3 (nI kk)) (some 92) 12 from hpa.1.is rfl) ?_
        refine mw_if (P := (nI kk) < 0) (a := 130) (b := 93) (fun _ => rfl) trivial (fun h13 => ?_) (fun h13 => ?_)
        · -- 130: (nI kk) < 0
          exact absurd h13 (nI_pos (by omega))
        · -- 93: not (nI kk) < 0
          refine mw_go mu_g171 (k := 2) (f1 := (97, [(2, .inl f), (3, .inl (nI k)), (0, .inr (.inr (some 92))), (1, .inr (.inr (some m)))], [.inr (.inr (mu_r Hsa 92 2))], (mu_si Hsa 92 3 (nI kk)))) (C := [mu_is (mu_si Hsa 92 3 (nI kk)) (some 92) 12]) rfl (show mu_is (mu_si Hsa 92 3 (nI kk)) (some 92) 12 from hpa.1.is rfl) ?_
          rw [hpa.2.2.1]
          refine mw_go mu_g171 (k := 5) (f1 := (106, [(2, .inl f), (3, .inl (nI k)), (0, .inr (.inr (some 92))), (1, .inr (.inr (some m)))], [.inr (.inr (mu_r Hsa 92 2)), .inl (1 : Int32), .inl (nI kk), .inr (.inr (some m))], (mu_si Hsa 92 3 (nI kk)))) (C := [mu_is (mu_si Hsa 92 3 (nI kk)) (some 92) 12, mu_is (mu_si Hsa 92 3 (nI kk)) (some 92) 12]) rfl (show (mu_is (mu_si Hsa 92 3 (nI kk)) (some 92) 12) ∧ (mu_is (mu_si Hsa 92 3 (nI kk)) (some 92) 12) from ⟨hpa.1.is rfl, hpa.1.is rfl⟩) ?_
          rw [hpa.2.2.1]
          refine mw_go mu_g171 (k := 1) (f1 := (109, [(2, .inl f), (3, .inl (nI k)), (0, .inr (.inr (some 92))), (1, .inr (.inr (some m)))], [.inr (.inr (mu_r Hsa m 2)), .inl (1 : Int32), .inl (nI kk), .inr (.inr (some m))], (mu_si Hsa 92 3 (nI kk)))) (C := [mu_is (mu_si Hsa 92 3 (nI kk)) (some m) 6]) rfl (show mu_is (mu_si Hsa 92 3 (nI kk)) (some m) 6 from (show mu_is Hsa (some m) 6 from gi_im hpa.1 hpa.2.1)) ?_
          rw [(show mu_r Hsa m 2 = some (m + 5) from (gi_mr hpa.1 hpa.2.1 (j := 2) (by decide)).trans (congrArg some (by omega)))]
          obtain ⟨hpq, hrq, haq, hhq⟩ := hpa.main (hrv.on hta) (y := (nI kk))
          have hIq : SI m (ak m H) (mu_si Hsa 92 3 (nI kk)) := hIs.set hhq (by rw [haq]) (by rw [haq]; exact eqc.refl _)
          have hJq : ∀ j, j ≠ 19 → ak m (mu_si Hsa 92 3 (nI kk)) j = ak m H j := fun j hj => by rw [haq]; exact hsm j hj
          have hmq : mu_i (mu_si Hsa 92 3 (nI kk)) 92 3 = (nI kk) := rfl
          have hzq : (ak m (mu_si Hsa 92 3 (nI kk)) 19).1 ≤ ((ak m H) 1).1 := by rw [haq]; omega
          generalize (mu_si Hsa 92 3 (nI kk)) = Q at hpq hrq haq hhq hIq hJq hmq hzq ⊢
          refine mw_cIe (fun _ => rfl) (show mu_is Q (some m) 6 from (show mu_is Q (some m) 6 from gi_im hpq.1 hpq.2.1)) (dm.stopr (d := (d + 5)) hpq rfl (j := 2) (by decide) rfl (c := 1) (by decide) (nI kk)) ?_
          rw [show (stp (ak m Q) (nI kk) 1 2) = (nI (sp (ak m H) (kk + 1) 1)) from hIq.stop hpq hc hk2 (by decide) (by decide) rfl]
          refine mw_go mu_g171 (k := 2) (f1 := (116, [(2, .inl f), (3, .inl (nI k)), (0, .inr (.inr (some 92))), (1, .inr (.inr (some m)))], [.inr (.inr (mu_r Q 92 2)), .inl (nI (sp (ak m H) (kk + 1) 1))], Q)) (C := [mu_is Q (some 92) 12]) rfl (show mu_is Q (some 92) 12 from hpq.1.is rfl) ?_
          rw [hpq.2.2.1]
          refine mw_go mu_g171 (k := 1) (f1 := (119, [(2, .inl f), (3, .inl (nI k)), (0, .inr (.inr (some 92))), (1, .inr (.inr (some m)))], [.inr (.inr (mu_r Q m 1)), .inl (nI (sp (ak m H) (kk + 1) 1))], Q)) (C := [mu_is Q (some m) 6]) rfl (show mu_is Q (some m) 6 from (show mu_is Q (some m) 6 from gi_im hpq.1 hpq.2.1)) ?_
          rw [(show mu_r Q m 1 = some (m + 3) from (gi_mr hpq.1 hpq.2.1 (j := 1) (by decide)).trans (congrArg some (by omega)))]
          refine mw_go mu_g171 (k := 2) (f1 := (123, [(2, .inl f), (3, .inl (nI k)), (0, .inr (.inr (some 92))), (1, .inr (.inr (some m)))], [.inl (mu_i Q 92 3), .inr (.inr (some (m + 3))), .inl (nI (sp (ak m H) (kk + 1) 1))], Q)) (C := [mu_is Q (some 92) 12]) rfl (show mu_is Q (some 92) 12 from hpq.1.is rfl) ?_
          rw [hmq]
          refine mw_go mu_g171 (k := 1) (f1 := (124, [(2, .inl f), (3, .inl (nI k)), (0, .inr (.inr (some 92))), (1, .inr (.inr (some m)))], [.inl (1 : Int32), .inl (nI kk), .inr (.inr (some (m + 3))), .inl (nI (sp (ak m H) (kk + 1) 1))], Q)) (C := []) rfl trivial ?_
          refine mw_cIe (fun _ => rfl) (show mu_is Q (some (m + 3)) 10 from (hpq.1.w (md_w1 hpq.2.1)).1) (dm.getr (d := (d + 6)) hpq rfl (j := 1) (by decide) rfl (nI kk) (c := 1) (by decide)) ?_
          rw [show (tget ((ak m Q) 1) (nI kk) 1) = (nI (sp (ak m H) kk 1)) from hIq.start hpq hc hk2 (by decide) (by decide)]
          refine mw_if (P := (nI (sp (ak m H) kk 1)) < (nI (sp (ak m H) (kk + 1) 1))) (a := 130) (b := 132) (fun _ => rfl) trivial (fun h17 => ?_) (fun h17 => ?_)
          · -- 130: (nI (sp (ak m H) kk 1)) < (nI (sp (ak m H) (kk + 1) 1))
            refine mw_go mu_g171 (k := 1) (f1 := (131, [(2, .inl f), (3, .inl (nI k)), (0, .inr (.inr (some 92))), (1, .inr (.inr (some m)))], [.inl (0 : Int32)], Q)) (C := []) rfl trivial ?_
            exact mw_of (fun _ => mu_ret rfl (Or.inl rfl) ⟨_, Q, rfl, Or.inl rfl, hpq, hrq.on (rl.refl m C Q), hIq, fun z => absurd z (by decide)⟩)
          · -- 132: not (nI (sp (ak m H) kk 1)) < (nI (sp (ak m H) (kk + 1) 1))
            have hnp := h17
            refine mw_go mu_g171 (k := 2) (f1 := (134, [(3, .inl (0 : Int32)), (2, .inl f), (0, .inr (.inr (some 92))), (1, .inr (.inr (some m)))], [], Q)) (C := []) rfl trivial ?_
            show mu_W _ _ (134, [(3, .inl (nI 0)), (2, .inl f), (0, .inr (.inr (some 92))), (1, .inr (.inr (some m)))], [], Q) _
            refine mw_sub (L' := [(3, .inl (nI 0)), (0, .inr (.inr (some 92))), (1, .inr (.inr (some m)))]) (by simp) ?_
            refine mw_down (α := Nat × mu_H) (fun zs => (134, [(3, .inl (nI zs.1)), (0, .inr (.inr (some 92))), (1, .inr (.inr (some m)))], [], zs.2)) (fun zs => ((ak m H) 1).1 - zs.1) (fun zs => dm m zs.2 ∧ rl m C Q zs.2 ∧ (zs.1 ≤ ((ak m H) 1).1) ∧ (SI m (ak m H) zs.2) ∧ (WF (ak m H) zs.1 (ak m zs.2)) ∧ (ak m zs.2 1 = ak m H 1) ∧ ((ak m zs.2 19).1 ≤ ((ak m H) 1).1 + sp (ak m H) zs.1 1 + sp (ak m H) zs.1 2 + sp (ak m H) zs.1 3 + ls2 ((ak m H) 3) (sp (ak m H) zs.1 2))) (fun zs hzb ihb => ?_) (0, Q) ⟨hpq, (rl.refl m C Q), (show 0 ≤ ((ak m H) 1).1 from by omega), (show SI m (ak m H) Q from hIq), (show WF (ak m H) 0 (ak m Q) from ⟨fun q hq => absurd hq (Nat.not_lt_zero q), fun q hq => absurd hq (Nat.not_lt_zero q)⟩), (show ak m Q 1 = ak m H 1 from (hJq 1 (by decide))), (show (ak m Q 19).1 ≤ ((ak m H) 1).1 + sp (ak m H) 0 1 + sp (ak m H) 0 2 + sp (ak m H) 0 3 + ls2 ((ak m H) 3) (sp (ak m H) 0 2) from by omega)⟩
            obtain ⟨k, Hsb⟩ := zs
            obtain ⟨hpb, htb, hk1, hIs, hW, hT, hz⟩ := hzb
            have hpb : dm m Hsb := hpb
            have htb : rl m C Q Hsb := htb
            have hk1 : k ≤ ((ak m H) 1).1 := hk1
            have hIs : SI m (ak m H) Hsb := hIs
            have hW : WF (ak m H) k (ak m Hsb) := hW
            have hT : ak m Hsb 1 = ak m H 1 := hT
            have hz : (ak m Hsb 19).1 ≤ ((ak m H) 1).1 + sp (ak m H) k 1 + sp (ak m H) k 2 + sp (ak m H) k 3 + ls2 ((ak m H) 3) (sp (ak m H) k 2) := hz
            show mu_W _ _ (134, [(3, .inl (nI k)), (0, .inr (.inr (some 92))), (1, .inr (.inr (some m)))], [], Hsb) _
            refine mw_go mu_g171 (k := 3) (f1 := (139, [(3, .inl (nI k)), (0, .inr (.inr (some 92))), (1, .inr (.inr (some m)))], [.inr (.inr (mu_r Hsb 92 2)), .inl (nI k)], Hsb)) (C := [mu_is Hsb (some 92) 12]) rfl (show mu_is Hsb (some 92) 12 from hpb.1.is rfl) ?_
            rw [hpb.2.2.1]
            refine mw_go mu_g171 (k := 1) (f1 := (142, [(3, .inl (nI k)), (0, .inr (.inr (some 92))), (1, .inr (.inr (some m)))], [.inr (.inr (mu_r Hsb m 1)), .inl (nI k)], Hsb)) (C := [mu_is Hsb (some m) 6]) rfl (show mu_is Hsb (some m) 6 from (show mu_is Hsb (some m) 6 from gi_im hpb.1 hpb.2.1)) ?_
            rw [(show mu_r Hsb m 1 = some (m + 3) from (gi_mr hpb.1 hpb.2.1 (j := 1) (by decide)).trans (congrArg some (by omega)))]
            refine mw_go mu_g171 (k := 1) (f1 := (145, [(3, .inl (nI k)), (0, .inr (.inr (some 92))), (1, .inr (.inr (some m)))], [.inl (mu_i Hsb (m + 3) 2), .inl (nI k)], Hsb)) (C := [mu_is Hsb (some (m + 3)) 10]) rfl (show mu_is Hsb (some (m + 3)) 10 from (hpb.1.w (md_w1 hpb.2.1)).1) ?_
            rw [(show mu_i Hsb (m + 3) 2 = nI ((ak m Hsb) 1).1 from hpb.size rfl (j := 1) (by decide))]
            refine mw_if (P := (nI k) < (nI ((ak m Hsb) 1).1)) (a := 148) (b := 180) (fun _ => rfl) trivial (fun h18 => ?_) (fun h18 => ?_)
            · -- 148: (nI k) < (nI ((ak m Hsb) 1).1)
              rw [hIs.n (j := 1) (by decide)] at h18
              have hkM : k < ((ak m H) 1).1 := (nI_ltI (by omega) (by omega)).mp h18
              have hkb := hkM
              obtain ⟨le1, lf1, lg1⟩ := hIs.le hpb hc hkM (c := 1) (j := 2) (by decide) (by decide) rfl
              obtain ⟨le2, lf2, lg2⟩ := hIs.le hpb hc hkM (c := 2) (j := 3) (by decide) (by decide) rfl
              obtain ⟨le3, lf3, lg3⟩ := hIs.le hpb hc hkM (c := 3) (j := 6) (by decide) (by decide) rfl
              have ll1 := ls2_le (t := (ak m H) 3) le2
              have ll2 := ls2_le (t := (ak m H) 3) lf2
              refine mw_go mu_g171 (k := 2) (f1 := (150, [(3, .inl (nI k)), (0, .inr (.inr (some 92))), (1, .inr (.inr (some m)))], [.inl (nI k), .inr (.inr (some 92))], Hsb)) (C := []) rfl trivial ?_
              refine mw_cI (fun _ => rfl) (show mu_is Hsb (some 92) 12 from hpb.1.is rfl) (so_differ2 (C := C) (d := (d + 2)) hpb hIs hc (i := k) hkM (by omega) hC8) (fun x19 H19 q19 => ?_)
              obtain ⟨qx19, hp19, qt19, hI19, hs19, hz19⟩ := q19
              rcases qx19 with rfl | rfl
              · -- (0 : Int32)
                have ht19 := htb.trans qt19
                refine mw_if (P := (0 : Int32) = 0) (a := 172) (b := 156) (fun _ => rfl) trivial (fun h20 => ?_) (fun h20 => absurd (by decide) h20)
                refine mw_go mu_g171 (k := 1) (f1 := (173, [(3, .inl (nI k)), (0, .inr (.inr (some 92))), (1, .inr (.inr (some m)))], [.inl (0 : Int32)], H19)) (C := []) rfl trivial ?_
                exact mw_of (fun _ => mu_ret rfl (Or.inl rfl) ⟨_, H19, rfl, Or.inl rfl, hp19, hrq.on ht19, hI19, fun z => absurd z (by decide)⟩)
              · -- (1 : Int32)
                have ht19 := htb.trans qt19
                refine mw_if (P := (1 : Int32) = 0) (a := 172) (b := 156) (fun _ => rfl) trivial (fun h21 => absurd h21 (by decide)) (fun h21 => ?_)
                refine mw_go mu_g171 (k := 2) (f1 := (158, [(3, .inl (nI k)), (0, .inr (.inr (some 92))), (1, .inr (.inr (some m)))], [.inl (nI k), .inr (.inr (some 92))], H19)) (C := []) rfl trivial ?_
                refine mw_cI (fun _ => rfl) (show mu_is H19 (some 92) 12 from hp19.1.is rfl) (so_types2 (C := C) (d := (d + 1)) hp19 hI19 hc (i := k) hkM (by omega) hC8) (fun x22 H22 q22 => ?_)
                obtain ⟨qx22, hp22, qt22, hI22, hz22, c422⟩ := q22
                rcases qx22 with rfl | rfl
                · -- (0 : Int32)
                  have ht22 := ht19.trans qt22
                  refine mw_if (P := (0 : Int32) = 0) (a := 172) (b := 164) (fun _ => rfl) trivial (fun h23 => ?_) (fun h23 => absurd (by decide) h23)
                  refine mw_go mu_g171 (k := 1) (f1 := (173, [(3, .inl (nI k)), (0, .inr (.inr (some 92))), (1, .inr (.inr (some m)))], [.inl (0 : Int32)], H22)) (C := []) rfl trivial ?_
                  exact mw_of (fun _ => mu_ret rfl (Or.inl rfl) ⟨_, H22, rfl, Or.inl rfl, hp22, hrq.on ht22, hI22, fun z => absurd z (by decide)⟩)
                · -- (1 : Int32)
                  have ht22 := ht19.trans qt22
                  refine mw_if (P := (1 : Int32) = 0) (a := 172) (b := 164) (fun _ => rfl) trivial (fun h24 => absurd h24 (by decide)) (fun h24 => ?_)
                  refine mw_go mu_g171 (k := 2) (f1 := (166, [(3, .inl (nI k)), (0, .inr (.inr (some 92))), (1, .inr (.inr (some m)))], [.inl (nI k), .inr (.inr (some 92))], H22)) (C := []) rfl trivial ?_
                  refine mw_cI (fun _ => rfl) (show mu_is H22 (some 92) 12 from hp22.1.is rfl) (so_lines2 (C := C) (d := (d + 4)) hp22 hI22 hc (i := k) hkM ) (fun x25 H25 q25 => ?_)
                  obtain ⟨qx25, hp25, qt25, hI25, hz25, c725⟩ := q25
                  rcases qx25 with rfl | rfl
                  · -- (0 : Int32)
                    have ht25 := ht22.trans qt25
                    refine mw_if (P := (0 : Int32) = 0) (a := 172) (b := 174) (fun _ => rfl) trivial (fun h26 => ?_) (fun h26 => absurd (by decide) h26)
                    refine mw_go mu_g171 (k := 1) (f1 := (173, [(3, .inl (nI k)), (0, .inr (.inr (some 92))), (1, .inr (.inr (some m)))], [.inl (0 : Int32)], H25)) (C := []) rfl trivial ?_
                    exact mw_of (fun _ => mu_ret rfl (Or.inl rfl) ⟨_, H25, rfl, Or.inl rfl, hp25, hrq.on ht25, hI25, fun z => absurd z (by decide)⟩)
                  · -- (1 : Int32)
                    have ht25 := ht22.trans qt25
                    refine mw_if (P := (1 : Int32) = 0) (a := 172) (b := 174) (fun _ => rfl) trivial (fun h27 => absurd h27 (by decide)) (fun h27 => ?_)
                    refine mw_go mu_g171 (k := 2) (f1 := (134, [(3, .inl ((nI k) + 1)), (0, .inr (.inr (some 92))), (1, .inr (.inr (some m)))], [], H25)) (C := []) rfl trivial ?_
                    rw [nI_1 k]
                    exact mw_sub (by simp) (ihb (k + 1, H25) ⟨hp25, ht25, (show (k + 1) ≤ ((ak m H) 1).1 from by omega), (show SI m (ak m H) H25 from hI25), (show WF (ak m H) (k + 1) (ak m H25) from (hW.step hc.1 hkM hs19 (c422 rfl) (c725 rfl) (hIs.eqq hI19) (hI19.eqq hI22) (hI22.eqq hI25))), (show ak m H25 1 = ak m H 1 from (((c725 rfl).1 1 (by decide) (by decide)).trans (((c422 rfl).1 1 (by decide) (by decide)).trans ((hs19 1 (by decide)).trans hT)))), (show (ak m H25 19).1 ≤ ((ak m H) 1).1 + sp (ak m H) (k + 1) 1 + sp (ak m H) (k + 1) 2 + sp (ak m H) (k + 1) 3 + ls2 ((ak m H) 3) (sp (ak m H) (k + 1) 2) from by omega)⟩ (by show ((ak m H) 1).1 - (k + 1) < ((ak m H) 1).1 - k; omega))
            · -- 180: not (nI k) < (nI ((ak m Hsb) 1).1)
              rw [hIs.n (j := 1) (by decide)] at h18
              have hkM : ¬ k < ((ak m H) 1).1 := fun z => h18 (nI_lt z (by omega))
              refine mw_go mu_g171 (k := 1) (f1 := (181, [(3, .inl (nI k)), (0, .inr (.inr (some 92))), (1, .inr (.inr (some m)))], [.inr (.inr (some 92))], Hsb)) (C := []) rfl trivial ?_
              have hke : k = ((ak m H) 1).1 := by omega
              have hVs : VMs (ak m Hsb) := fun q hq v a b => by rw [hIs.n (by decide)] at hq; rw [hIs.2.2.spc (by decide)] at a b; exact hW.1 q (by omega) v a b
              have h80 : ∀ q, q < ((ak m H) 1).1 → (ak m Hsb 1).2 q 8 = 0 := fun q hq => by rw [hT]; exact hc.2.2.1.2.2.2.2 q hq
              have hRs : RKs (ak m Hsb) := fun q hq => Or.inl (h80 q (by rw [← hIs.n (j := 1) (by decide)]; exact hq))
              refine mw_cI (fun _ => rfl) (show mu_is Hsb (some 92) 12 from hpb.1.is rfl) (so_ends2 (C := C) (d := (d + 3)) hpb hIs hc hVs hRs (cnt_zero _ h80)) (fun x28 H28 q28 => ?_)
              obtain ⟨qx28, hp28, qt28, hI28, hV28, hJ28, hE28⟩ := q28
              rcases qx28 with rfl | rfl
              · -- (0 : Int32)
                have ht28 := htb.trans qt28
                exact mw_of (fun _ => mu_ret rfl (Or.inl rfl) ⟨_, H28, rfl, Or.inl rfl, hp28, hrq.on ht28, hI28, fun z => absurd z (by decide)⟩)
              · -- (1 : Int32)
                have ht28 := htb.trans qt28
                obtain ⟨lk1, lk2, lk3⟩ := hIq.le hpq hc hk2 (c := 1) (j := 2) (by decide) (by decide) rfl
                exact mw_of (fun _ => mu_ret rfl (Or.inr rfl) ⟨_, H28, rfl, Or.inr rfl, hp28, hrq.on ht28, hI28, fun _ => ⟨⟨kk, hk2, by rw [ht28.2.2.2.2 3]; exact hmq, Nat.le_of_not_lt (fun z => hnp (nI_lt z (by omega)))⟩, hV28, fun q hq n a b => (hW.2 q (by omega) n a b).keep (hIs.eqq hI28) (by rw [hJ28 7 (by decide)]), (hE28 rfl).1, (hE28 rfl).2⟩⟩)
end SoundWell3
