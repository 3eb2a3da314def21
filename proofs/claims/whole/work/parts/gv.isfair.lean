/-! GRAPH: whether each FAIRNESS is true somewhere around -/
section IsFair
variable {H : mu_H} {U V : Ud} {m d nf mn T fx iz bz : Nat} {C : Nat → Nat} {qu : Nat → Nat} {FS : Nat → Nat → Bool}

/-- PathProver$Graph.isFair(I)Z -/
abbrev mu_m330 : ev_M := (5, (some .boolean), [], ev_b330)
theorem mu_g330 : mu_good mu_m330 := mu_goodk ev_k330
theorem gr_isFair (h : um m H) (e : ud m H = U) (hF : FST U nf T FS) (hTb : T ≤ 16384) (hq12 : mn ≤ (U.2.2.1 147 12).1) (hq12b : (U.2.2.1 147 12).1 ≤ 16777216) (hqu : ∀ i, i < mn → (U.2.2.1 147 12).2 i = nI (qu i) ∧ qu i < T) (hQ : ∀ t, t < T → (bts (U.2.2.2.2.1 152) t = true ↔ ∃ i, i < mn ∧ qu i = t)) : mu_TI (mu_D (d + 4)) 330 [.inr (.inr (some 147)), .inl (nI mn)] H (fun x H1 => H1 = H ∧ ((x = 1 ∧ ∀ f, f < nf → ∃ i, i < mn ∧ FS f (qu i) = true) ∨ (x = 0 ∧ ∃ f, f < nf ∧ ∀ i, i < mn → FS f (qu i) = false))) := by
  obtain ⟨⟨hF0, hF1⟩, hF2⟩ := hF
  refine mu_meth (M := mu_m330) rfl rfl ?_
  refine mw_ht (mu_fn_of (show [0, 1].Nodup by decide)) ?_
  refine mw_go mu_g330 (k := 2) (f1 := (2, [(2, .inl (0 : Int32)), (0, .inr (.inr (some 147))), (1, .inl (nI mn))], [], H)) (C := []) rfl trivial ?_
  show mu_W _ _ (2, [(2, .inl (nI 0)), (0, .inr (.inr (some 147))), (1, .inl (nI mn))], [], H) _
  refine mw_sub (L' := [(2, .inl (nI 0)), (0, .inr (.inr (some 147))), (1, .inl (nI mn))]) (by simp) ?_
  refine mw_down (α := Nat) (fun zs => (2, [(2, .inl (nI zs)), (0, .inr (.inr (some 147))), (1, .inl (nI mn))], [], H)) (fun zs => nf - zs) (fun zs => (zs ≤ nf) ∧ (∀ f, f < zs → FYE FS qu f mn)) (fun zs hza iha => ?_) 0 ⟨(show 0 ≤ nf from (by omega)), (show ∀ f, f < 0 → FYE FS qu f mn from (fun f hf => absurd hf (Nat.not_lt_zero f)))⟩
  obtain ⟨fx, rfl⟩ : ∃ y, y = zs := ⟨zs, rfl⟩
  obtain ⟨hfx, hall⟩ := hza
  have hfx : fx ≤ nf := hfx
  have hall : ∀ f, f < fx → FYE FS qu f mn := hall
  show mu_W _ _ (2, [(2, .inl (nI fx)), (0, .inr (.inr (some 147))), (1, .inl (nI mn))], [], H) _
  refine mw_go mu_g330 (k := 3) (f1 := (7, [(2, .inl (nI fx)), (0, .inr (.inr (some 147))), (1, .inl (nI mn))], [.inr (.inr (mu_r H 147 0)), .inl (nI fx)], H)) (C := [mu_is H (some 147) 2]) rfl (show mu_is H (some 147) 2 from (h.1.1.is rfl)) ?_
  rw [(h.1.1.r (p := 147) (j := 0) (q := 99) rfl)]
  refine mw_go mu_g330 (k := 1) (f1 := (10, [(2, .inl (nI fx)), (0, .inr (.inr (some 147))), (1, .inl (nI mn))], [.inl (mu_i H 99 19), .inl (nI fx)], H)) (C := [mu_is H (some 99) 13]) rfl (show mu_is H (some 99) 13 from (h.1.1.is rfl)) ?_
  rw [(show mu_i H 99 19 = (nI nf) from (ud_i (U := U) (m := m) (P := 99) (j := 19) e rfl).trans hF0)]
  refine mw_if (P := (nI fx) < (nI nf)) (a := 13) (b := 99) (fun _ => rfl) trivial (fun h1 => ?_) (fun h1 => ?_)
  · -- 13: (nI fx) < (nI nf)
    have nh1 : fx < nf := (nI_ltI (by omega) (by omega)).mp (show nI fx < nI nf from h1)
    refine mw_go mu_g330 (k := 2) (f1 := (16, [(2, .inl (nI fx)), (0, .inr (.inr (some 147))), (1, .inl (nI mn))], [.inl (64 : Int32), .inl (nI mn)], H)) (C := []) rfl trivial ?_
    refine mw_if (P := (64 : Int32) < (nI mn)) (a := 19) (b := 41) (fun _ => rfl) trivial (fun h2 => ?_) (fun h2 => ?_)
    · -- 19: (64 : Int32) < (nI mn)
      have nh2 : 64 < mn := (nI_ltI (by omega) (by omega)).mp (show nI 64 < nI mn from h2)
      refine mw_go mu_g330 (k := 2) (f1 := (23, [(2, .inl (nI fx)), (0, .inr (.inr (some 147))), (1, .inl (nI mn))], [.inr (.inr (mu_r H 147 0))], H)) (C := [mu_is H (some 147) 2]) rfl (show mu_is H (some 147) 2 from (h.1.1.is rfl)) ?_
      rw [(h.1.1.r (p := 147) (j := 0) (q := 99) rfl)]
      refine mw_go mu_g330 (k := 1) (f1 := (26, [(2, .inl (nI fx)), (0, .inr (.inr (some 147))), (1, .inl (nI mn))], [.inr (.inr (mu_r H 99 2))], H)) (C := [mu_is H (some 99) 13]) rfl (show mu_is H (some 99) 13 from (h.1.1.is rfl)) ?_
      rw [(h.1.1.r (p := 99) (j := 2) (q := 113) rfl)]
      refine mw_go mu_g330 (k := 3) (f1 := (31, [(2, .inl (nI fx)), (0, .inr (.inr (some 147))), (1, .inl (nI mn))], [.inr (.inr (mu_r H 147 6)), .inl (nI fx), .inr (.inr (some 113))], H)) (C := [mu_is H (some 147) 2]) rfl (show mu_is H (some 147) 2 from (h.1.1.is rfl)) ?_
      rw [(h.1.1.r (p := 147) (j := 6) (q := 152) rfl)]
      obtain ⟨⟨st, fc, hsat, hstz⟩, hFSb⟩ := hF2 fx (by omega)
      refine mw_cI (fun _ => rfl) (show mu_is H (some 113) 11 from (h.1.1.is rfl)) ((st_mts (d := d) (id := fx) h e hsat hstz (fun x hx => by have := hFSb x hx; omega)).imp (fun _ _ z => fl_alt z)) (fun x3 H3 q3 => ?_)
      rcases q3 with ⟨rfl, hmt, rfl⟩ | ⟨rfl, hmt, rfl⟩
      · -- (1 : Int32)
        replace hmt := HID.mk hmt
        have hbz1 : FYE FS qu fx mn := by
          obtain ⟨t, t1, t2⟩ := hmt.out
          obtain ⟨i, i1, i2⟩ := (hQ t (hFSb t t1)).mp t2
          exact ⟨i, i1, by rw [i2]; exact t1⟩
        refine mw_if (P := (1 : Int32) = 0) (a := 41) (b := 37) (fun _ => rfl) trivial (fun h4 => absurd h4 (by decide)) (fun h4 => ?_)
        refine mw_go mu_g330 (k := 5) (f1 := (46, [(4, .inl (0 : Int32)), (3, .inl (1 : Int32)), (2, .inl (nI fx)), (0, .inr (.inr (some 147))), (1, .inl (nI mn))], [], H)) (C := []) rfl trivial ?_
        show mu_W _ _ (46, [(4, .inl (nI 0)), (3, .inl (nI 1)), (2, .inl (nI fx)), (0, .inr (.inr (some 147))), (1, .inl (nI mn))], [], H) _
        refine mw_sub (L' := [(3, .inl (nI 1)), (4, .inl (nI 0)), (0, .inr (.inr (some 147))), (1, .inl (nI mn)), (2, .inl (nI fx))]) (by simp) ?_
        refine mw_down (α := Nat × Nat) (fun zs => (46, [(3, .inl (nI zs.1)), (4, .inl (nI zs.2)), (0, .inr (.inr (some 147))), (1, .inl (nI mn)), (2, .inl (nI fx))], [], H)) (fun zs => mn - zs.2) (fun zs => (zs.1 ≤ 1 ∧ zs.2 ≤ mn) ∧ (zs.1 = 1 → FYE FS qu fx mn) ∧ (zs.1 = 0 → (∀ i, i < zs.2 → FS fx (qu i) = false) ∧ (64 < mn → ∀ i, i < mn → FS fx (qu i) = false))) (fun zs hzb ihb => ?_) (1, 0) ⟨(show 1 ≤ 1 ∧ 0 ≤ mn from ⟨by decide, Nat.zero_le _⟩), (show 1 = 1 → FYE FS qu fx mn from (fun _ => hbz1)), (show 1 = 0 → (∀ i, i < 0 → FS fx (qu i) = false) ∧ (64 < mn → ∀ i, i < mn → FS fx (qu i) = false) from (fun y => by cases y))⟩
        obtain ⟨bz, iz⟩ := zs
        obtain ⟨hz1, hzy, hzn⟩ := hzb
        have hz1 : bz ≤ 1 ∧ iz ≤ mn := hz1
        have hzy : bz = 1 → FYE FS qu fx mn := hzy
        have hzn : bz = 0 → (∀ i, i < iz → FS fx (qu i) = false) ∧ (64 < mn → ∀ i, i < mn → FS fx (qu i) = false) := hzn
        show mu_W _ _ (46, [(3, .inl (nI bz)), (4, .inl (nI iz)), (0, .inr (.inr (some 147))), (1, .inl (nI mn)), (2, .inl (nI fx))], [], H) _
        refine mw_go mu_g330 (k := 2) (f1 := (49, [(3, .inl (nI bz)), (4, .inl (nI iz)), (0, .inr (.inr (some 147))), (1, .inl (nI mn)), (2, .inl (nI fx))], [.inl (nI mn), .inl (nI iz)], H)) (C := []) rfl trivial ?_
        refine mw_if (P := (nI iz) < (nI mn)) (a := 52) (b := 87) (fun _ => rfl) trivial (fun h5 => ?_) (fun h5 => ?_)
        · -- 52: (nI iz) < (nI mn)
          have nh5 : iz < mn := (nI_ltI (by omega) (by omega)).mp (show nI iz < nI mn from h5)
          refine mw_go mu_g330 (k := 2) (f1 := (55, [(3, .inl (nI bz)), (4, .inl (nI iz)), (0, .inr (.inr (some 147))), (1, .inl (nI mn)), (2, .inl (nI fx))], [.inl (64 : Int32), .inl (nI mn)], H)) (C := []) rfl trivial ?_
          refine mw_if (P := (64 : Int32) < (nI mn)) (a := 87) (b := 58) (fun _ => rfl) trivial (fun _ => ?_) (fun h6 => absurd h2 h6)
          refine mw_go mu_g330 (k := 1) (f1 := (88, [(3, .inl (nI bz)), (4, .inl (nI iz)), (0, .inr (.inr (some 147))), (1, .inl (nI mn)), (2, .inl (nI fx))], [.inl (nI bz)], H)) (C := []) rfl trivial ?_
          refine mw_if (P := (nI bz) = 0) (a := 91) (b := 93) (fun _ => rfl) trivial (fun h7 => ?_) (fun h7 => ?_)
          · -- 91: (nI bz) = 0
            have nh7 : bz = 0 := (nI_eq (by omega) (by omega)).mp (show nI bz = nI 0 from h7)
            refine mw_go mu_g330 (k := 1) (f1 := (92, [(3, .inl (nI bz)), (4, .inl (nI iz)), (0, .inr (.inr (some 147))), (1, .inl (nI mn)), (2, .inl (nI fx))], [.inl (0 : Int32)], H)) (C := []) rfl trivial ?_
            exact mw_of (fun _ => mu_ret rfl (Or.inl rfl) ⟨_, H, rfl, rfl, Or.inr ⟨rfl, fx, by omega, fun i hi => (by rcases Nat.lt_or_ge 64 mn with y | y; (exact (hzn (by omega)).2 y i hi); (exact (hzn (by omega)).1 i (by omega)))⟩⟩)
          · -- 93: not (nI bz) = 0
            have nh7 : ¬ bz = 0 := fun z => h7 (show nI bz = nI 0 from (nI_eq (by omega) (by omega)).mpr z)
            refine mw_go mu_g330 (k := 1) (f1 := (96, [(2, .inl ((nI fx) + 1)), (3, .inl (nI bz)), (4, .inl (nI iz)), (0, .inr (.inr (some 147))), (1, .inl (nI mn))], [], H)) (C := []) rfl trivial ?_
            rw [(show ((nI fx) + 1) = (nI (fx + 1)) from (nI_add fx 1))]
            refine mw_go mu_g330 (k := 1) (f1 := (2, [(2, .inl (nI (fx + 1))), (3, .inl (nI bz)), (4, .inl (nI iz)), (0, .inr (.inr (some 147))), (1, .inl (nI mn))], [], H)) (C := []) rfl trivial ?_
            exact mw_sub (by simp) (iha (fx + 1) ⟨(show (fx + 1) ≤ nf from (by omega)), (show ∀ f, f < (fx + 1) → FYE FS qu f mn from (fun f hf => by rcases Nat.lt_or_ge f fx with y | y; (exact hall f y); (rw [show f = fx by omega]; exact hzy (by omega))))⟩ (by show nf - (fx + 1) < nf - fx; omega))
        · -- 87: not (nI iz) < (nI mn)
          have nh5 : ¬ iz < mn := fun z => h5 (show nI iz < nI mn from (nI_ltI (by omega) (by omega)).mpr z)
          refine mw_go mu_g330 (k := 1) (f1 := (88, [(3, .inl (nI bz)), (4, .inl (nI iz)), (0, .inr (.inr (some 147))), (1, .inl (nI mn)), (2, .inl (nI fx))], [.inl (nI bz)], H)) (C := []) rfl trivial ?_
          refine mw_if (P := (nI bz) = 0) (a := 91) (b := 93) (fun _ => rfl) trivial (fun h8 => ?_) (fun h8 => ?_)
          · -- 91: (nI bz) = 0
            have nh8 : bz = 0 := (nI_eq (by omega) (by omega)).mp (show nI bz = nI 0 from h8)
            refine mw_go mu_g330 (k := 1) (f1 := (92, [(3, .inl (nI bz)), (4, .inl (nI iz)), (0, .inr (.inr (some 147))), (1, .inl (nI mn)), (2, .inl (nI fx))], [.inl (0 : Int32)], H)) (C := []) rfl trivial ?_
            exact mw_of (fun _ => mu_ret rfl (Or.inl rfl) ⟨_, H, rfl, rfl, Or.inr ⟨rfl, fx, by omega, fun i hi => (by rcases Nat.lt_or_ge 64 mn with y | y; (exact (hzn (by omega)).2 y i hi); (exact (hzn (by omega)).1 i (by omega)))⟩⟩)
          · -- 93: not (nI bz) = 0
            have nh8 : ¬ bz = 0 := fun z => h8 (show nI bz = nI 0 from (nI_eq (by omega) (by omega)).mpr z)
            refine mw_go mu_g330 (k := 1) (f1 := (96, [(2, .inl ((nI fx) + 1)), (3, .inl (nI bz)), (4, .inl (nI iz)), (0, .inr (.inr (some 147))), (1, .inl (nI mn))], [], H)) (C := []) rfl trivial ?_
            rw [(show ((nI fx) + 1) = (nI (fx + 1)) from (nI_add fx 1))]
            refine mw_go mu_g330 (k := 1) (f1 := (2, [(2, .inl (nI (fx + 1))), (3, .inl (nI bz)), (4, .inl (nI iz)), (0, .inr (.inr (some 147))), (1, .inl (nI mn))], [], H)) (C := []) rfl trivial ?_
            exact mw_sub (by simp) (iha (fx + 1) ⟨(show (fx + 1) ≤ nf from (by omega)), (show ∀ f, f < (fx + 1) → FYE FS qu f mn from (fun f hf => by rcases Nat.lt_or_ge f fx with y | y; (exact hall f y); (rw [show f = fx by omega]; exact hzy (by omega))))⟩ (by show nf - (fx + 1) < nf - fx; omega))
      · -- (0 : Int32)
        have hbz0 : ∀ i, i < mn → FS fx (qu i) = false := fun i hi => by
          cases hb : FS fx (qu i)
          · rfl
          · have y := hmt (qu i) hb
            rw [(hQ (qu i) (hFSb _ hb)).mpr ⟨i, hi, rfl⟩] at y
            cases y
        refine mw_if (P := (0 : Int32) = 0) (a := 41) (b := 37) (fun _ => rfl) trivial (fun h9 => ?_) (fun h9 => absurd (by decide) h9)
        refine mw_go mu_g330 (k := 4) (f1 := (46, [(4, .inl (0 : Int32)), (3, .inl (0 : Int32)), (2, .inl (nI fx)), (0, .inr (.inr (some 147))), (1, .inl (nI mn))], [], H)) (C := []) rfl trivial ?_
        show mu_W _ _ (46, [(4, .inl (nI 0)), (3, .inl (nI 0)), (2, .inl (nI fx)), (0, .inr (.inr (some 147))), (1, .inl (nI mn))], [], H) _
        refine mw_sub (L' := [(3, .inl (nI 0)), (4, .inl (nI 0)), (0, .inr (.inr (some 147))), (1, .inl (nI mn)), (2, .inl (nI fx))]) (by simp) ?_
        refine mw_down (α := Nat × Nat) (fun zs => (46, [(3, .inl (nI zs.1)), (4, .inl (nI zs.2)), (0, .inr (.inr (some 147))), (1, .inl (nI mn)), (2, .inl (nI fx))], [], H)) (fun zs => mn - zs.2) (fun zs => (zs.1 ≤ 1 ∧ zs.2 ≤ mn) ∧ (zs.1 = 1 → FYE FS qu fx mn) ∧ (zs.1 = 0 → (∀ i, i < zs.2 → FS fx (qu i) = false) ∧ (64 < mn → ∀ i, i < mn → FS fx (qu i) = false))) (fun zs hzb ihb => ?_) (0, 0) ⟨(show 0 ≤ 1 ∧ 0 ≤ mn from ⟨by decide, Nat.zero_le _⟩), (show 0 = 1 → FYE FS qu fx mn from (fun y => by cases y)), (show 0 = 0 → (∀ i, i < 0 → FS fx (qu i) = false) ∧ (64 < mn → ∀ i, i < mn → FS fx (qu i) = false) from (fun _ => ⟨fun i hi => absurd hi (Nat.not_lt_zero i), fun y => hbz0⟩))⟩
        obtain ⟨bz, iz⟩ := zs
        obtain ⟨hz1, hzy, hzn⟩ := hzb
        have hz1 : bz ≤ 1 ∧ iz ≤ mn := hz1
        have hzy : bz = 1 → FYE FS qu fx mn := hzy
        have hzn : bz = 0 → (∀ i, i < iz → FS fx (qu i) = false) ∧ (64 < mn → ∀ i, i < mn → FS fx (qu i) = false) := hzn
        show mu_W _ _ (46, [(3, .inl (nI bz)), (4, .inl (nI iz)), (0, .inr (.inr (some 147))), (1, .inl (nI mn)), (2, .inl (nI fx))], [], H) _
        refine mw_go mu_g330 (k := 2) (f1 := (49, [(3, .inl (nI bz)), (4, .inl (nI iz)), (0, .inr (.inr (some 147))), (1, .inl (nI mn)), (2, .inl (nI fx))], [.inl (nI mn), .inl (nI iz)], H)) (C := []) rfl trivial ?_
        refine mw_if (P := (nI iz) < (nI mn)) (a := 52) (b := 87) (fun _ => rfl) trivial (fun h10 => ?_) (fun h10 => ?_)
        · -- 52: (nI iz) < (nI mn)
          have nh10 : iz < mn := (nI_ltI (by omega) (by omega)).mp (show nI iz < nI mn from h10)
          refine mw_go mu_g330 (k := 2) (f1 := (55, [(3, .inl (nI bz)), (4, .inl (nI iz)), (0, .inr (.inr (some 147))), (1, .inl (nI mn)), (2, .inl (nI fx))], [.inl (64 : Int32), .inl (nI mn)], H)) (C := []) rfl trivial ?_
          refine mw_if (P := (64 : Int32) < (nI mn)) (a := 87) (b := 58) (fun _ => rfl) trivial (fun _ => ?_) (fun h11 => absurd h2 h11)
          refine mw_go mu_g330 (k := 1) (f1 := (88, [(3, .inl (nI bz)), (4, .inl (nI iz)), (0, .inr (.inr (some 147))), (1, .inl (nI mn)), (2, .inl (nI fx))], [.inl (nI bz)], H)) (C := []) rfl trivial ?_
          refine mw_if (P := (nI bz) = 0) (a := 91) (b := 93) (fun _ => rfl) trivial (fun h12 => ?_) (fun h12 => ?_)
          · -- 91: (nI bz) = 0
            have nh12 : bz = 0 := (nI_eq (by omega) (by omega)).mp (show nI bz = nI 0 from h12)
            refine mw_go mu_g330 (k := 1) (f1 := (92, [(3, .inl (nI bz)), (4, .inl (nI iz)), (0, .inr (.inr (some 147))), (1, .inl (nI mn)), (2, .inl (nI fx))], [.inl (0 : Int32)], H)) (C := []) rfl trivial ?_
            exact mw_of (fun _ => mu_ret rfl (Or.inl rfl) ⟨_, H, rfl, rfl, Or.inr ⟨rfl, fx, by omega, fun i hi => (by rcases Nat.lt_or_ge 64 mn with y | y; (exact (hzn (by omega)).2 y i hi); (exact (hzn (by omega)).1 i (by omega)))⟩⟩)
          · -- 93: not (nI bz) = 0
            have nh12 : ¬ bz = 0 := fun z => h12 (show nI bz = nI 0 from (nI_eq (by omega) (by omega)).mpr z)
            refine mw_go mu_g330 (k := 1) (f1 := (96, [(2, .inl ((nI fx) + 1)), (3, .inl (nI bz)), (4, .inl (nI iz)), (0, .inr (.inr (some 147))), (1, .inl (nI mn))], [], H)) (C := []) rfl trivial ?_
            rw [(show ((nI fx) + 1) = (nI (fx + 1)) from (nI_add fx 1))]
            refine mw_go mu_g330 (k := 1) (f1 := (2, [(2, .inl (nI (fx + 1))), (3, .inl (nI bz)), (4, .inl (nI iz)), (0, .inr (.inr (some 147))), (1, .inl (nI mn))], [], H)) (C := []) rfl trivial ?_
            exact mw_sub (by simp) (iha (fx + 1) ⟨(show (fx + 1) ≤ nf from (by omega)), (show ∀ f, f < (fx + 1) → FYE FS qu f mn from (fun f hf => by rcases Nat.lt_or_ge f fx with y | y; (exact hall f y); (rw [show f = fx by omega]; exact hzy (by omega))))⟩ (by show nf - (fx + 1) < nf - fx; omega))
        · -- 87: not (nI iz) < (nI mn)
          have nh10 : ¬ iz < mn := fun z => h10 (show nI iz < nI mn from (nI_ltI (by omega) (by omega)).mpr z)
          refine mw_go mu_g330 (k := 1) (f1 := (88, [(3, .inl (nI bz)), (4, .inl (nI iz)), (0, .inr (.inr (some 147))), (1, .inl (nI mn)), (2, .inl (nI fx))], [.inl (nI bz)], H)) (C := []) rfl trivial ?_
          refine mw_if (P := (nI bz) = 0) (a := 91) (b := 93) (fun _ => rfl) trivial (fun h13 => ?_) (fun h13 => ?_)
          · -- 91: (nI bz) = 0
            have nh13 : bz = 0 := (nI_eq (by omega) (by omega)).mp (show nI bz = nI 0 from h13)
            refine mw_go mu_g330 (k := 1) (f1 := (92, [(3, .inl (nI bz)), (4, .inl (nI iz)), (0, .inr (.inr (some 147))), (1, .inl (nI mn)), (2, .inl (nI fx))], [.inl (0 : Int32)], H)) (C := []) rfl trivial ?_
            exact mw_of (fun _ => mu_ret rfl (Or.inl rfl) ⟨_, H, rfl, rfl, Or.inr ⟨rfl, fx, by omega, fun i hi => (by rcases Nat.lt_or_ge 64 mn with y | y; (exact (hzn (by omega)).2 y i hi); (exact (hzn (by omega)).1 i (by omega)))⟩⟩)
          · -- 93: not (nI bz) = 0
            have nh13 : ¬ bz = 0 := fun z => h13 (show nI bz = nI 0 from (nI_eq (by omega) (by omega)).mpr z)
            refine mw_go mu_g330 (k := 1) (f1 := (96, [(2, .inl ((nI fx) + 1)), (3, .inl (nI bz)), (4, .inl (nI iz)), (0, .inr (.inr (some 147))), (1, .inl (nI mn))], [], H)) (C := []) rfl trivial ?_
            rw [(show ((nI fx) + 1) = (nI (fx + 1)) from (nI_add fx 1))]
            refine mw_go mu_g330 (k := 1) (f1 := (2, [(2, .inl (nI (fx + 1))), (3, .inl (nI bz)), (4, .inl (nI iz)), (0, .inr (.inr (some 147))), (1, .inl (nI mn))], [], H)) (C := []) rfl trivial ?_
            exact mw_sub (by simp) (iha (fx + 1) ⟨(show (fx + 1) ≤ nf from (by omega)), (show ∀ f, f < (fx + 1) → FYE FS qu f mn from (fun f hf => by rcases Nat.lt_or_ge f fx with y | y; (exact hall f y); (rw [show f = fx by omega]; exact hzy (by omega))))⟩ (by show nf - (fx + 1) < nf - fx; omega))
    · -- 41: not (64 : Int32) < (nI mn)
      have nh2 : ¬ 64 < mn := fun z => h2 (show nI 64 < nI mn from (nI_ltI (by omega) (by omega)).mpr z)
      refine mw_go mu_g330 (k := 4) (f1 := (46, [(4, .inl (0 : Int32)), (3, .inl (0 : Int32)), (2, .inl (nI fx)), (0, .inr (.inr (some 147))), (1, .inl (nI mn))], [], H)) (C := []) rfl trivial ?_
      show mu_W _ _ (46, [(4, .inl (nI 0)), (3, .inl (nI 0)), (2, .inl (nI fx)), (0, .inr (.inr (some 147))), (1, .inl (nI mn))], [], H) _
      refine mw_sub (L' := [(3, .inl (nI 0)), (4, .inl (nI 0)), (0, .inr (.inr (some 147))), (1, .inl (nI mn)), (2, .inl (nI fx))]) (by simp) ?_
      refine mw_down (α := Nat × Nat) (fun zs => (46, [(3, .inl (nI zs.1)), (4, .inl (nI zs.2)), (0, .inr (.inr (some 147))), (1, .inl (nI mn)), (2, .inl (nI fx))], [], H)) (fun zs => mn - zs.2) (fun zs => (zs.1 ≤ 1 ∧ zs.2 ≤ mn) ∧ (zs.1 = 1 → FYE FS qu fx mn) ∧ (zs.1 = 0 → (∀ i, i < zs.2 → FS fx (qu i) = false) ∧ (64 < mn → ∀ i, i < mn → FS fx (qu i) = false))) (fun zs hzb ihb => ?_) (0, 0) ⟨(show 0 ≤ 1 ∧ 0 ≤ mn from ⟨by decide, Nat.zero_le _⟩), (show 0 = 1 → FYE FS qu fx mn from (fun y => by cases y)), (show 0 = 0 → (∀ i, i < 0 → FS fx (qu i) = false) ∧ (64 < mn → ∀ i, i < mn → FS fx (qu i) = false) from (fun _ => ⟨fun i hi => absurd hi (Nat.not_lt_zero i), fun y => absurd y (by omega)⟩))⟩
      obtain ⟨bz, iz⟩ := zs
      obtain ⟨hz1, hzy, hzn⟩ := hzb
      have hz1 : bz ≤ 1 ∧ iz ≤ mn := hz1
      have hzy : bz = 1 → FYE FS qu fx mn := hzy
      have hzn : bz = 0 → (∀ i, i < iz → FS fx (qu i) = false) ∧ (64 < mn → ∀ i, i < mn → FS fx (qu i) = false) := hzn
      show mu_W _ _ (46, [(3, .inl (nI bz)), (4, .inl (nI iz)), (0, .inr (.inr (some 147))), (1, .inl (nI mn)), (2, .inl (nI fx))], [], H) _
      refine mw_go mu_g330 (k := 2) (f1 := (49, [(3, .inl (nI bz)), (4, .inl (nI iz)), (0, .inr (.inr (some 147))), (1, .inl (nI mn)), (2, .inl (nI fx))], [.inl (nI mn), .inl (nI iz)], H)) (C := []) rfl trivial ?_
      refine mw_if (P := (nI iz) < (nI mn)) (a := 52) (b := 87) (fun _ => rfl) trivial (fun h14 => ?_) (fun h14 => ?_)
      · -- 52: (nI iz) < (nI mn)
        have nh14 : iz < mn := (nI_ltI (by omega) (by omega)).mp (show nI iz < nI mn from h14)
        refine mw_go mu_g330 (k := 2) (f1 := (55, [(3, .inl (nI bz)), (4, .inl (nI iz)), (0, .inr (.inr (some 147))), (1, .inl (nI mn)), (2, .inl (nI fx))], [.inl (64 : Int32), .inl (nI mn)], H)) (C := []) rfl trivial ?_
        refine mw_if (P := (64 : Int32) < (nI mn)) (a := 87) (b := 58) (fun _ => rfl) trivial (fun h15 => absurd h15 h2) (fun _ => ?_)
        refine mw_go mu_g330 (k := 1) (f1 := (59, [(3, .inl (nI bz)), (4, .inl (nI iz)), (0, .inr (.inr (some 147))), (1, .inl (nI mn)), (2, .inl (nI fx))], [.inl (nI bz)], H)) (C := []) rfl trivial ?_
        refine mw_if (P := (nI bz) = 0) (a := 62) (b := 87) (fun _ => rfl) trivial (fun h16 => ?_) (fun h16 => ?_)
        · -- 62: (nI bz) = 0
          have nh16 : bz = 0 := (nI_eq (by omega) (by omega)).mp (show nI bz = nI 0 from h16)
          refine mw_go mu_g330 (k := 2) (f1 := (66, [(3, .inl (nI bz)), (4, .inl (nI iz)), (0, .inr (.inr (some 147))), (1, .inl (nI mn)), (2, .inl (nI fx))], [.inr (.inr (mu_r H 147 0))], H)) (C := [mu_is H (some 147) 2]) rfl (show mu_is H (some 147) 2 from (h.1.1.is rfl)) ?_
          rw [(h.1.1.r (p := 147) (j := 0) (q := 99) rfl)]
          refine mw_go mu_g330 (k := 1) (f1 := (69, [(3, .inl (nI bz)), (4, .inl (nI iz)), (0, .inr (.inr (some 147))), (1, .inl (nI mn)), (2, .inl (nI fx))], [.inr (.inr (mu_r H 99 2))], H)) (C := [mu_is H (some 99) 13]) rfl (show mu_is H (some 99) 13 from (h.1.1.is rfl)) ?_
          rw [(h.1.1.r (p := 99) (j := 2) (q := 113) rfl)]
          refine mw_go mu_g330 (k := 3) (f1 := (74, [(3, .inl (nI bz)), (4, .inl (nI iz)), (0, .inr (.inr (some 147))), (1, .inl (nI mn)), (2, .inl (nI fx))], [.inr (.inr (mu_r H 147 12)), .inl (nI fx), .inr (.inr (some 113))], H)) (C := [mu_is H (some 147) 2]) rfl (show mu_is H (some 147) 2 from (h.1.1.is rfl)) ?_
          rw [(show mu_r H 147 12 = (U.2.2.2.1 147 12) from (ud_q (U := U) (m := m) (P := 147) (j := 12) e rfl))]
          refine mw_go mu_g330 (k := 2) (f1 := (77, [(3, .inl (nI bz)), (4, .inl (nI iz)), (0, .inr (.inr (some 147))), (1, .inl (nI mn)), (2, .inl (nI fx))], [.inl (mu_i H (mu_p (U.2.2.2.1 147 12)) (nI iz).toNatClampNeg), .inl (nI fx), .inr (.inr (some 113))], H)) (C := [mu_isr H (U.2.2.2.1 147 12) 100, vp_in (nI iz) (mu_n H (mu_p (U.2.2.2.1 147 12)))]) rfl (show (mu_isr H (U.2.2.2.1 147 12) 100) ∧ (vp_in (nI iz) (mu_n H (mu_p (U.2.2.2.1 147 12)))) from ⟨((h.iA e rfl rfl (show U.2.2.2.1 147 12 = (U.2.2.2.1 147 12) from rfl))).r, (h.vA (i := iz) e rfl rfl (show U.2.2.2.1 147 12 = (U.2.2.2.1 147 12) from rfl) (show (U.2.2.1 147 12).1 = (U.2.2.1 147 12).1 from rfl) (by omega) (by omega))⟩) ?_
          rw [(show (mu_i H (mu_p (U.2.2.2.1 147 12)) (nI iz).toNatClampNeg) = (nI (qu iz)) from ((congrArg (mu_i H (mu_p (U.2.2.2.1 147 12))) (show (nI iz).toNatClampNeg = iz from nI_clamp (by omega))).trans (h.gA e rfl rfl (show U.2.2.2.1 147 12 = (U.2.2.2.1 147 12) from rfl))).trans ((congrArg (fun z => z.2 iz) (show U.2.2.1 147 12 = (U.2.2.1 147 12) from rfl)).trans (hqu iz (by omega)).1))]
          obtain ⟨⟨st, fc, hsat, hstz⟩, hFSb⟩ := hF2 fx (by omega)
          refine mw_cI (fun _ => rfl) (show mu_is H (some 113) 11 from (h.1.1.is rfl)) ((st_has (d := (d + 1)) (id := fx) (x := qu iz) h e hsat hstz (by have := (hqu iz (by omega)).2; omega)).imp (fun _ _ z => has_alt z)) (fun x17 H17 q17 => ?_)
          rcases q17 with ⟨rfl, hct, rfl⟩ | ⟨rfl, hct, rfl⟩
          · -- (1 : Int32)
            refine mw_go mu_g330 (k := 2) (f1 := (84, [(4, .inl ((nI iz) + 1)), (3, .inl (1 : Int32)), (0, .inr (.inr (some 147))), (1, .inl (nI mn)), (2, .inl (nI fx))], [], H)) (C := []) rfl trivial ?_
            rw [(show ((nI iz) + 1) = (nI (iz + 1)) from (nI_add iz 1))]
            refine mw_go mu_g330 (k := 1) (f1 := (46, [(4, .inl (nI (iz + 1))), (3, .inl (1 : Int32)), (0, .inr (.inr (some 147))), (1, .inl (nI mn)), (2, .inl (nI fx))], [], H)) (C := []) rfl trivial ?_
            show mu_W _ _ (46, [(4, .inl (nI (iz + 1))), (3, .inl (nI 1)), (0, .inr (.inr (some 147))), (1, .inl (nI mn)), (2, .inl (nI fx))], [], H) _
            exact mw_sub (by simp) (ihb (1, iz + 1) ⟨(show 1 ≤ 1 ∧ (iz + 1) ≤ mn from (by omega)), (show 1 = 1 → FYE FS qu fx mn from (fun _ => ⟨iz, by omega, hct⟩)), (show 1 = 0 → (∀ i, i < (iz + 1) → FS fx (qu i) = false) ∧ (64 < mn → ∀ i, i < mn → FS fx (qu i) = false) from (fun y => by cases y))⟩ (by show mn - (iz + 1) < mn - iz; omega))
          · -- (0 : Int32)
            refine mw_go mu_g330 (k := 2) (f1 := (84, [(4, .inl ((nI iz) + 1)), (3, .inl (0 : Int32)), (0, .inr (.inr (some 147))), (1, .inl (nI mn)), (2, .inl (nI fx))], [], H)) (C := []) rfl trivial ?_
            rw [(show ((nI iz) + 1) = (nI (iz + 1)) from (nI_add iz 1))]
            refine mw_go mu_g330 (k := 1) (f1 := (46, [(4, .inl (nI (iz + 1))), (3, .inl (0 : Int32)), (0, .inr (.inr (some 147))), (1, .inl (nI mn)), (2, .inl (nI fx))], [], H)) (C := []) rfl trivial ?_
            show mu_W _ _ (46, [(4, .inl (nI (iz + 1))), (3, .inl (nI 0)), (0, .inr (.inr (some 147))), (1, .inl (nI mn)), (2, .inl (nI fx))], [], H) _
            exact mw_sub (by simp) (ihb (0, iz + 1) ⟨(show 0 ≤ 1 ∧ (iz + 1) ≤ mn from (by omega)), (show 0 = 1 → FYE FS qu fx mn from (fun y => by cases y)), (show 0 = 0 → (∀ i, i < (iz + 1) → FS fx (qu i) = false) ∧ (64 < mn → ∀ i, i < mn → FS fx (qu i) = false) from (fun _ => ⟨fun i hi => (by rcases Nat.lt_or_ge i iz with y | y; (exact (hzn (by omega)).1 i y); (rw [show i = iz by omega]; exact hct)), fun y => absurd y (by omega)⟩))⟩ (by show mn - (iz + 1) < mn - iz; omega))
        · -- 87: not (nI bz) = 0
          have nh16 : ¬ bz = 0 := fun z => h16 (show nI bz = nI 0 from (nI_eq (by omega) (by omega)).mpr z)
          refine mw_go mu_g330 (k := 1) (f1 := (88, [(3, .inl (nI bz)), (4, .inl (nI iz)), (0, .inr (.inr (some 147))), (1, .inl (nI mn)), (2, .inl (nI fx))], [.inl (nI bz)], H)) (C := []) rfl trivial ?_
          refine mw_if (P := (nI bz) = 0) (a := 91) (b := 93) (fun _ => rfl) trivial (fun h18 => absurd h18 h16) (fun _ => ?_)
          refine mw_go mu_g330 (k := 1) (f1 := (96, [(2, .inl ((nI fx) + 1)), (3, .inl (nI bz)), (4, .inl (nI iz)), (0, .inr (.inr (some 147))), (1, .inl (nI mn))], [], H)) (C := []) rfl trivial ?_
          rw [(show ((nI fx) + 1) = (nI (fx + 1)) from (nI_add fx 1))]
          refine mw_go mu_g330 (k := 1) (f1 := (2, [(2, .inl (nI (fx + 1))), (3, .inl (nI bz)), (4, .inl (nI iz)), (0, .inr (.inr (some 147))), (1, .inl (nI mn))], [], H)) (C := []) rfl trivial ?_
          exact mw_sub (by simp) (iha (fx + 1) ⟨(show (fx + 1) ≤ nf from (by omega)), (show ∀ f, f < (fx + 1) → FYE FS qu f mn from (fun f hf => by rcases Nat.lt_or_ge f fx with y | y; (exact hall f y); (rw [show f = fx by omega]; exact hzy (by omega))))⟩ (by show nf - (fx + 1) < nf - fx; omega))
      · -- 87: not (nI iz) < (nI mn)
        have nh14 : ¬ iz < mn := fun z => h14 (show nI iz < nI mn from (nI_ltI (by omega) (by omega)).mpr z)
        refine mw_go mu_g330 (k := 1) (f1 := (88, [(3, .inl (nI bz)), (4, .inl (nI iz)), (0, .inr (.inr (some 147))), (1, .inl (nI mn)), (2, .inl (nI fx))], [.inl (nI bz)], H)) (C := []) rfl trivial ?_
        refine mw_if (P := (nI bz) = 0) (a := 91) (b := 93) (fun _ => rfl) trivial (fun h19 => ?_) (fun h19 => ?_)
        · -- 91: (nI bz) = 0
          have nh19 : bz = 0 := (nI_eq (by omega) (by omega)).mp (show nI bz = nI 0 from h19)
          refine mw_go mu_g330 (k := 1) (f1 := (92, [(3, .inl (nI bz)), (4, .inl (nI iz)), (0, .inr (.inr (some 147))), (1, .inl (nI mn)), (2, .inl (nI fx))], [.inl (0 : Int32)], H)) (C := []) rfl trivial ?_
          exact mw_of (fun _ => mu_ret rfl (Or.inl rfl) ⟨_, H, rfl, rfl, Or.inr ⟨rfl, fx, by omega, fun i hi => (by rcases Nat.lt_or_ge 64 mn with y | y; (exact (hzn (by omega)).2 y i hi); (exact (hzn (by omega)).1 i (by omega)))⟩⟩)
        · -- 93: not (nI bz) = 0
          have nh19 : ¬ bz = 0 := fun z => h19 (show nI bz = nI 0 from (nI_eq (by omega) (by omega)).mpr z)
          refine mw_go mu_g330 (k := 1) (f1 := (96, [(2, .inl ((nI fx) + 1)), (3, .inl (nI bz)), (4, .inl (nI iz)), (0, .inr (.inr (some 147))), (1, .inl (nI mn))], [], H)) (C := []) rfl trivial ?_
          rw [(show ((nI fx) + 1) = (nI (fx + 1)) from (nI_add fx 1))]
          refine mw_go mu_g330 (k := 1) (f1 := (2, [(2, .inl (nI (fx + 1))), (3, .inl (nI bz)), (4, .inl (nI iz)), (0, .inr (.inr (some 147))), (1, .inl (nI mn))], [], H)) (C := []) rfl trivial ?_
          exact mw_sub (by simp) (iha (fx + 1) ⟨(show (fx + 1) ≤ nf from (by omega)), (show ∀ f, f < (fx + 1) → FYE FS qu f mn from (fun f hf => by rcases Nat.lt_or_ge f fx with y | y; (exact hall f y); (rw [show f = fx by omega]; exact hzy (by omega))))⟩ (by show nf - (fx + 1) < nf - fx; omega))
  · -- 99: not (nI fx) < (nI nf)
    have nh1 : ¬ fx < nf := fun z => h1 (show nI fx < nI nf from (nI_ltI (by omega) (by omega)).mpr z)
    refine mw_go mu_g330 (k := 1) (f1 := (100, [(2, .inl (nI fx)), (0, .inr (.inr (some 147))), (1, .inl (nI mn))], [.inl (1 : Int32)], H)) (C := []) rfl trivial ?_
    exact mw_of (fun _ => mu_ret rfl (Or.inr rfl) ⟨_, H, rfl, rfl, Or.inl ⟨rfl, fun f hf => hall f (by omega)⟩⟩)
end IsFair
