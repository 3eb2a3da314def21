/-! The reference: allValues -/
/-- PathProverModel.allValues()V -/
abbrev mu_m462 : ev_M := (4, none, [], ev_b462)
theorem mu_g462 : mu_good mu_m462 := mu_goodk ev_k462
/-- the TYPES have numbers that fit -/
def mdn (D : MD) : Prop := ∀ v, v < (D.pr 1).length → tynu (typ D v)
/-- only cells of the MODEL are written -/
def vfr (D : MD) (H H1 : mu_H) : Prop := kep (fun p => D.G p) 0 0 H H1
section Vfr
variable {Hb H H1 H2 : mu_H} {D : MD} {q j : Nat} {x : Int32}
theorem vfr.rf : vfr D H H := kep.rf
theorem vfr.si (h : vfr D H H1) (hq : D.G q) : vfr D H (mu_si H1 q j x) := kep.si h (Or.inl hq)
theorem rms.wr (h : rms Hb D H) (hq : D.G q) (hj : (mu_k Hb q = 16 ∧ (j = 6 ∨ j = 17)) ∨ (mu_k Hb q = 18 ∧ j = 3 ∧ mu_i Hb q 7 ≠ 1)) : rms Hb D (mu_si H q j x) := by
  obtain ⟨h1, h2, h3, h4, h5⟩ := h
  have n9 : q ≠ 169 := fun e => by have := (h2.2.2.2 q hq).1; omega
  exact ⟨h1, h2.wr hq hj, h3, h4, by rw [mu_i_si, if_neg (fun z => n9 z.1.symm)]; exact h5⟩
end Vfr
/-- the number of a symbol -/
def syn (D : MD) (b : List Int32) : Int32 := fid (fun i => decide (D.sy.getD i [] = b)) D.sy.length 0
/-- the value k of the VARIABLE v is written, if it is a symbol -/
def tvo (Hb : mu_H) (D : MD) (H : mu_H) (v k : Nat) : Prop := ∀ q a y, mu_r Hb (D.loc 3) v = some q → mu_r Hb q 1 = some a → mu_r Hb a k = some y → tkd (typ D v) = 69 → tkd (tkk (typ D v) k) = 70 → mu_i H y 3 = syn D (nam (tkk (typ D v) k))
theorem tyw.val {c : Tre} {k : Nat} (h : tyw c) (hk : tkd c = 69) (hi : k < tsn c) : vlw (tkk c k) := by
  rcases h with z | z | z | z
  · rw [z.1] at hk; exact absurd hk (by decide)
  · exact z.2.2 k hi
  · rw [z.1] at hk; exact absurd hk (by decide)
  · rw [z.1] at hk; exact absurd hk (by decide)
/-- the place of a value -/
theorem rms.pl {Hb H : mu_H} {D : MD} {v k q a y : Nat} (h : rms Hb D H) (hv : v < (D.pr 1).length) (hk : k < tsn (typ D v)) (h1 : mu_r Hb (D.loc 3) v = some q) (h2 : mu_r Hb q 1 = some a) (h3 : mu_r Hb a k = some y) : nd Hb D.G (D.lv - 1) y (tkk (typ D v) k) := by
  obtain ⟨q', q1, q2⟩ := (h.1.2.2.1 1 (by decide)).2.1.2.2.2 v hv
  have q1 : mu_r Hb (D.loc 3) v = some q' := q1
  rw [h1] at q1
  cases q1
  obtain ⟨_, _, _, _, _, a', a1, _, _, _, a5, _⟩ := q2.rd
  rw [h2] at a1
  cases a1
  obtain ⟨y', y1, y2⟩ := a5 k hk
  rw [h3] at y1
  cases y1
  exact y2
theorem tvo.wr {Hb H : mu_H} {D : MD} {v k v' k' y : Nat} (hr : rms Hb D H) (hy : mdy D) (h : tvo Hb D H v k) (hv : v < (D.pr 1).length) (hk : k < tsn (typ D v)) (hn : nd Hb D.G (D.lv - 1) y (tkk (typ D v') k')) (h0 : 0 < (tns (tkk (typ D v') k')).length) : tvo Hb D (mu_si H y 3 (syn D (nam (tkk (typ D v') k')))) v k := by
  intro q a y2 h1 h2 h3 h4 h5
  rw [mu_i_si]
  by_cases e : y2 = y
  · subst e
    rw [if_pos ⟨rfl, rfl⟩]
    have n2 := hr.pl hv hk h1 h2 h3
    have v2 := ((hy v hv).1.val h4 hk).1.resolve_left (fun z => by rw [z] at h5; exact absurd h5 (by decide))
    rw [nd_nam hn n2 h0 (by rw [v2.2]; exact Nat.one_pos)]
  · rw [if_neg (fun z => e z.1)]
    exact h q a y2 h1 h2 h3 h4 h5
theorem rp_avB {Hb H : mu_H} {D : MD} {d v B : Nat} {Φ : mu_R → Prop} (hb : mdb D) (hy : mdy D) (hm : mdn D) (hr : rms Hb D H) (hv : v < (D.pr 1).length) (hnx : mu_W (mu_D (d + 4)) mu_m462 (48, [(2, .inl (nI B)), (1, .inl (nI v)), (0, .inr (.inr (some 169)))], [], H) Φ) : ∀ m_ b, b + m_ = 27 → bzl (hmn (typ D v)) m_ b = B → mu_W (mu_D (d + 4)) mu_m462 (23, [(2, .inl (nI b)), (1, .inl (nI v)), (0, .inr (.inr (some 169)))], [], H) Φ
  | 0, b, hm_, hR => by
    obtain ⟨om1, ⟨om0_1, om1_1⟩, ol1, on1, oc1, oj1⟩ := hr.mod
    obtain ⟨⟨pa2, pb2, pc2⟩, ⟨pd2, pe2, pf2⟩, pg2, ph2, pi2⟩ := hr.row (k := 1) (by decide)
    have b5 := hb.2.2.1
    obtain ⟨q, qr3, qn3⟩ := pf2 v hv
    obtain ⟨ra3, rb3, rc3, rd3⟩ := ar_at (i := v) pd2 (by decide) (by omega) (by omega)
    have re3 : mu_r H (D.loc 3) (nI v).toNatClampNeg = some q := by rw [rd3]; exact qr3
    have ty := hy v hv
    have hq := hmI_n ty.1 (hm v hv) ty.2 (qn3.s26 (c := typ D v))
    have es := shl_b b (by omega)
    refine mw_go mu_g462 (k := 3) (f1 := (26, [(2, .inl (nI b)), (1, .inl (nI v)), (0, .inr (.inr (some 169)))], [.inl ((1 : Int32) <<< ((nI b) &&& 31))], H)) (C := []) rfl trivial ?_
    refine mw_fr (f' := (26, [(2, .inl (nI b)), (1, .inl (nI v)), (0, .inr (.inr (some 169)))], [.inl (nI (2 ^ b))], H)) (by first | (rw [es]; done) | (rw [es]; rfl)) ?_
    refine mw_go mu_g462 (k := 3) (f1 := (31, [(2, .inl (nI b)), (1, .inl (nI v)), (0, .inr (.inr (some 169)))], [.inr (.inr (mu_r H 169 18)), .inr (.inr (some 169)), .inl (nI (2 ^ b))], H)) (C := [mu_is H (some 169) 1]) rfl (show mu_is H (some 169) 1 from hr.2.2.1.1) ?_
    refine mw_fr (f' := (31, [(2, .inl (nI b)), (1, .inl (nI v)), (0, .inr (.inr (some 169)))], [.inr (.inr (some D.mp)), .inr (.inr (some 169)), .inl (nI (2 ^ b))], H)) (by first | (rw [hr.2.2.1.2]; done) | (rw [hr.2.2.1.2]; rfl)) ?_
    refine mw_go mu_g462 (k := 1) (f1 := (34, [(2, .inl (nI b)), (1, .inl (nI v)), (0, .inr (.inr (some 169)))], [.inr (.inr (mu_r H D.mp 4)), .inr (.inr (some 169)), .inl (nI (2 ^ b))], H)) (C := [mu_is H (some D.mp) 16]) rfl (show mu_is H (some D.mp) 16 from om1) ?_
    refine mw_fr (f' := (34, [(2, .inl (nI b)), (1, .inl (nI v)), (0, .inr (.inr (some 169)))], [.inr (.inr (some (D.loc 3))), .inr (.inr (some 169)), .inl (nI (2 ^ b))], H)) (by first | (rw [(show mu_r H D.mp 4 = some (D.loc 3) from pa2)]; done) | (rw [(show mu_r H D.mp 4 = some (D.loc 3) from pa2)]; rfl)) ?_
    refine mw_go mu_g462 (k := 2) (f1 := (36, [(2, .inl (nI b)), (1, .inl (nI v)), (0, .inr (.inr (some 169)))], [.inr (.inr (mu_r H (D.loc 3) (nI v).toNatClampNeg)), .inr (.inr (some 169)), .inl (nI (2 ^ b))], H)) (C := [mu_is H (some (D.loc 3)) (mu_k H (D.loc 3)), 103 ≤ mu_k H (D.loc 3) ∧ mu_k H (D.loc 3) ≤ 110 ∧ mu_k H (D.loc 3) ≠ 108, vp_in (nI v) (mu_n H (D.loc 3))]) rfl (show (mu_is H (some (D.loc 3)) (mu_k H (D.loc 3))) ∧ (103 ≤ mu_k H (D.loc 3) ∧ mu_k H (D.loc 3) ≤ 110 ∧ mu_k H (D.loc 3) ≠ 108) ∧ (vp_in (nI v) (mu_n H (D.loc 3))) from ⟨ra3, rb3, rc3⟩) ?_
    refine mw_fr (f' := (36, [(2, .inl (nI b)), (1, .inl (nI v)), (0, .inr (.inr (some 169)))], [.inr (.inr (some q)), .inr (.inr (some 169)), .inl (nI (2 ^ b))], H)) (by first | (rw [re3]; done) | (rw [re3]; rfl)) ?_
    refine mw_cIe (fun _ => rfl) (show mu_is H (some 169) 1 from hr.2.2.1.1) (rp_howMany (d := d) (c := typ D v) qn3 hr.2.1 ty.1) ?_
    refine mw_fr (f' := (39, [(2, .inl (nI b)), (1, .inl (nI v)), (0, .inr (.inr (some 169)))], [.inl (nI (hmn (typ D v))), .inl (nI (2 ^ b))], H)) (by rw [hq.1]) ?_
    have pw : 2 ^ b < 2147483648 := Nat.lt_of_le_of_lt (Nat.pow_le_pow_right (by decide) (show b ≤ 27 by omega)) (by decide)
    have hbb : b = 27 := by omega
    refine mw_if (P := (nI (2 ^ b)) < (nI (hmn (typ D v)))) (a := 42) (b := 48) (fun _ => rfl) trivial (fun h1 => absurd (nI_below pw (by omega) h1) (by rw [hbb]; omega)) (fun h1 => ?_)
    · -- 48
      have hR : b = B := hR
      rw [hR]
      exact hnx
  | m_ + 1, b, hm_, hR => by
    obtain ⟨om1, ⟨om0_1, om1_1⟩, ol1, on1, oc1, oj1⟩ := hr.mod
    obtain ⟨⟨pa2, pb2, pc2⟩, ⟨pd2, pe2, pf2⟩, pg2, ph2, pi2⟩ := hr.row (k := 1) (by decide)
    have b5 := hb.2.2.1
    obtain ⟨q, qr3, qn3⟩ := pf2 v hv
    obtain ⟨ra3, rb3, rc3, rd3⟩ := ar_at (i := v) pd2 (by decide) (by omega) (by omega)
    have re3 : mu_r H (D.loc 3) (nI v).toNatClampNeg = some q := by rw [rd3]; exact qr3
    have ty := hy v hv
    have hq := hmI_n ty.1 (hm v hv) ty.2 (qn3.s26 (c := typ D v))
    have es := shl_b b (by omega)
    refine mw_go mu_g462 (k := 3) (f1 := (26, [(2, .inl (nI b)), (1, .inl (nI v)), (0, .inr (.inr (some 169)))], [.inl ((1 : Int32) <<< ((nI b) &&& 31))], H)) (C := []) rfl trivial ?_
    refine mw_fr (f' := (26, [(2, .inl (nI b)), (1, .inl (nI v)), (0, .inr (.inr (some 169)))], [.inl (nI (2 ^ b))], H)) (by first | (rw [es]; done) | (rw [es]; rfl)) ?_
    refine mw_go mu_g462 (k := 3) (f1 := (31, [(2, .inl (nI b)), (1, .inl (nI v)), (0, .inr (.inr (some 169)))], [.inr (.inr (mu_r H 169 18)), .inr (.inr (some 169)), .inl (nI (2 ^ b))], H)) (C := [mu_is H (some 169) 1]) rfl (show mu_is H (some 169) 1 from hr.2.2.1.1) ?_
    refine mw_fr (f' := (31, [(2, .inl (nI b)), (1, .inl (nI v)), (0, .inr (.inr (some 169)))], [.inr (.inr (some D.mp)), .inr (.inr (some 169)), .inl (nI (2 ^ b))], H)) (by first | (rw [hr.2.2.1.2]; done) | (rw [hr.2.2.1.2]; rfl)) ?_
    refine mw_go mu_g462 (k := 1) (f1 := (34, [(2, .inl (nI b)), (1, .inl (nI v)), (0, .inr (.inr (some 169)))], [.inr (.inr (mu_r H D.mp 4)), .inr (.inr (some 169)), .inl (nI (2 ^ b))], H)) (C := [mu_is H (some D.mp) 16]) rfl (show mu_is H (some D.mp) 16 from om1) ?_
    refine mw_fr (f' := (34, [(2, .inl (nI b)), (1, .inl (nI v)), (0, .inr (.inr (some 169)))], [.inr (.inr (some (D.loc 3))), .inr (.inr (some 169)), .inl (nI (2 ^ b))], H)) (by first | (rw [(show mu_r H D.mp 4 = some (D.loc 3) from pa2)]; done) | (rw [(show mu_r H D.mp 4 = some (D.loc 3) from pa2)]; rfl)) ?_
    refine mw_go mu_g462 (k := 2) (f1 := (36, [(2, .inl (nI b)), (1, .inl (nI v)), (0, .inr (.inr (some 169)))], [.inr (.inr (mu_r H (D.loc 3) (nI v).toNatClampNeg)), .inr (.inr (some 169)), .inl (nI (2 ^ b))], H)) (C := [mu_is H (some (D.loc 3)) (mu_k H (D.loc 3)), 103 ≤ mu_k H (D.loc 3) ∧ mu_k H (D.loc 3) ≤ 110 ∧ mu_k H (D.loc 3) ≠ 108, vp_in (nI v) (mu_n H (D.loc 3))]) rfl (show (mu_is H (some (D.loc 3)) (mu_k H (D.loc 3))) ∧ (103 ≤ mu_k H (D.loc 3) ∧ mu_k H (D.loc 3) ≤ 110 ∧ mu_k H (D.loc 3) ≠ 108) ∧ (vp_in (nI v) (mu_n H (D.loc 3))) from ⟨ra3, rb3, rc3⟩) ?_
    refine mw_fr (f' := (36, [(2, .inl (nI b)), (1, .inl (nI v)), (0, .inr (.inr (some 169)))], [.inr (.inr (some q)), .inr (.inr (some 169)), .inl (nI (2 ^ b))], H)) (by first | (rw [re3]; done) | (rw [re3]; rfl)) ?_
    refine mw_cIe (fun _ => rfl) (show mu_is H (some 169) 1 from hr.2.2.1.1) (rp_howMany (d := d) (c := typ D v) qn3 hr.2.1 ty.1) ?_
    refine mw_fr (f' := (39, [(2, .inl (nI b)), (1, .inl (nI v)), (0, .inr (.inr (some 169)))], [.inl (nI (hmn (typ D v))), .inl (nI (2 ^ b))], H)) (by rw [hq.1]) ?_
    have pw : 2 ^ b < 2147483648 := Nat.lt_of_le_of_lt (Nat.pow_le_pow_right (by decide) (show b ≤ 27 by omega)) (by decide)
    refine mw_if (P := (nI (2 ^ b)) < (nI (hmn (typ D v)))) (a := 42) (b := 48) (fun _ => rfl) trivial (fun h1 => ?_) (fun h1 => ?_)
    · -- 42
      have lt := nI_below pw (by omega) h1
      rw [bzl, if_pos lt] at hR
      refine mw_go mu_g462 (k := 2) (f1 := (23, [(2, .inl ((nI b) + 1)), (1, .inl (nI v)), (0, .inr (.inr (some 169)))], [], H)) (C := []) rfl trivial ?_
      refine mw_sub (L' := [(2, .inl (nI (b + 1))), (1, .inl (nI v)), (0, .inr (.inr (some 169)))]) (by intro x hx; simp only [List.mem_cons, List.not_mem_nil, or_false] at hx ⊢; rcases hx with rfl | rfl | rfl <;> first | (simp [nI_add, show (1 : Int32) = nI 1 from rfl]; done) | simp [nI]) ?_
      exact rp_avB hb hy hm hr hv hnx m_ (b + 1) (by omega) hR
    · -- 48
      have lt : ¬ 2 ^ b < hmn (typ D v) := fun z => h1 (nI_lt z (by omega))
      rw [bzl, if_neg lt] at hR
      rw [hR]
      exact hnx
theorem rp_avS {Hb H0 : mu_H} {D : MD} {d : Nat} {Φ : mu_R → Prop} (hb : mdb D) (hy : mdy D) (hm : mdn D) (hnx : ∀ H, rms Hb D H → mu_i H D.mp 6 = nI (bsm D (D.pr 1).length) → vfr D H0 H → mu_W (mu_D (d + 4)) mu_m462 (67, [(0, .inr (.inr (some 169)))], [], H) Φ) : ∀ m_ v H, v + m_ = (D.pr 1).length → rms Hb D H → mu_i H D.mp 6 = nI (bsm D v) → vfr D H0 H → mu_W (mu_D (d + 4)) mu_m462 (10, [(1, .inl (nI v)), (0, .inr (.inr (some 169)))], [], H) Φ
  | 0, v, H, hm_, hr, h6, hf => by
    obtain ⟨om1, ⟨om0_1, om1_1⟩, ol1, on1, oc1, oj1⟩ := hr.mod
    obtain ⟨⟨pa2, pb2, pc2⟩, ⟨pd2, pe2, pf2⟩, pg2, ph2, pi2⟩ := hr.row (k := 1) (by decide)
    have b5 := hb.2.2.1
    refine mw_go mu_g462 (k := 3) (f1 := (15, [(1, .inl (nI v)), (0, .inr (.inr (some 169)))], [.inr (.inr (mu_r H 169 18)), .inl (nI v)], H)) (C := [mu_is H (some 169) 1]) rfl (show mu_is H (some 169) 1 from hr.2.2.1.1) ?_
    refine mw_fr (f' := (15, [(1, .inl (nI v)), (0, .inr (.inr (some 169)))], [.inr (.inr (some D.mp)), .inl (nI v)], H)) (by first | (rw [hr.2.2.1.2]; done) | (rw [hr.2.2.1.2]; rfl)) ?_
    refine mw_go mu_g462 (k := 1) (f1 := (18, [(1, .inl (nI v)), (0, .inr (.inr (some 169)))], [.inl (mu_i H D.mp 5), .inl (nI v)], H)) (C := [mu_is H (some D.mp) 16]) rfl (show mu_is H (some D.mp) 16 from om1) ?_
    refine mw_fr (f' := (18, [(1, .inl (nI v)), (0, .inr (.inr (some 169)))], [.inl (nI (D.pr 1).length), .inl (nI v)], H)) (by first | (rw [(show mu_i H D.mp 5 = nI (D.pr 1).length from pc2)]; done) | (rw [(show mu_i H D.mp 5 = nI (D.pr 1).length from pc2)]; rfl)) ?_
    refine mw_if (P := (nI v) < (nI (D.pr 1).length)) (a := 21) (b := 67) (fun _ => rfl) trivial (fun h1 => absurd h1 (by rw [show v = (D.pr 1).length by omega]; exact Int32.lt_irrefl)) (fun h1 => ?_)
    rw [show v = (D.pr 1).length by omega] at h6
    refine mw_sub (L' := [(0, .inr (.inr (some 169)))]) (by simp) ?_
    exact hnx _ hr h6 hf
  | m_ + 1, v, H, hm_, hr, h6, hf => by
    obtain ⟨om1, ⟨om0_1, om1_1⟩, ol1, on1, oc1, oj1⟩ := hr.mod
    obtain ⟨⟨pa2, pb2, pc2⟩, ⟨pd2, pe2, pf2⟩, pg2, ph2, pi2⟩ := hr.row (k := 1) (by decide)
    have b5 := hb.2.2.1
    have hv : v < (D.pr 1).length := by omega
    have bl := bsm_le (D := D) v
    refine mw_go mu_g462 (k := 3) (f1 := (15, [(1, .inl (nI v)), (0, .inr (.inr (some 169)))], [.inr (.inr (mu_r H 169 18)), .inl (nI v)], H)) (C := [mu_is H (some 169) 1]) rfl (show mu_is H (some 169) 1 from hr.2.2.1.1) ?_
    refine mw_fr (f' := (15, [(1, .inl (nI v)), (0, .inr (.inr (some 169)))], [.inr (.inr (some D.mp)), .inl (nI v)], H)) (by first | (rw [hr.2.2.1.2]; done) | (rw [hr.2.2.1.2]; rfl)) ?_
    refine mw_go mu_g462 (k := 1) (f1 := (18, [(1, .inl (nI v)), (0, .inr (.inr (some 169)))], [.inl (mu_i H D.mp 5), .inl (nI v)], H)) (C := [mu_is H (some D.mp) 16]) rfl (show mu_is H (some D.mp) 16 from om1) ?_
    refine mw_fr (f' := (18, [(1, .inl (nI v)), (0, .inr (.inr (some 169)))], [.inl (nI (D.pr 1).length), .inl (nI v)], H)) (by first | (rw [(show mu_i H D.mp 5 = nI (D.pr 1).length from pc2)]; done) | (rw [(show mu_i H D.mp 5 = nI (D.pr 1).length from pc2)]; rfl)) ?_
    refine mw_if (P := (nI v) < (nI (D.pr 1).length)) (a := 21) (b := 67) (fun _ => rfl) trivial (fun h1 => ?_) (fun h1 => absurd (nI_lt hv (by omega)) h1)
    refine mw_go mu_g462 (k := 2) (f1 := (23, [(2, .inl (0 : Int32)), (1, .inl (nI v)), (0, .inr (.inr (some 169)))], [], H)) (C := []) rfl trivial ?_
    refine mw_sub (L' := [(2, .inl (nI 0)), (1, .inl (nI v)), (0, .inr (.inr (some 169)))]) (by intro x hx; simp only [List.mem_cons, List.not_mem_nil, or_false] at hx ⊢; rcases hx with rfl | rfl | rfl <;> simp [nI]) ?_
    refine rp_avB (B := clg (hmn (typ D v))) hb hy hm hr hv ?_ 27 0 rfl rfl
    have e6 : nI (bsm D v) + nI (clg (hmn (typ D v))) = nI (bsm D (v + 1)) := nI_add _ _
    refine mw_go mu_g462 (k := 2) (f1 := (52, [(2, .inl (nI (clg (hmn (typ D v))))), (1, .inl (nI v)), (0, .inr (.inr (some 169)))], [.inr (.inr (mu_r H 169 18))], H)) (C := [mu_is H (some 169) 1]) rfl (show mu_is H (some 169) 1 from hr.2.2.1.1) ?_
    refine mw_fr (f' := (52, [(2, .inl (nI (clg (hmn (typ D v))))), (1, .inl (nI v)), (0, .inr (.inr (some 169)))], [.inr (.inr (some D.mp))], H)) (by first | (rw [hr.2.2.1.2]; done) | (rw [hr.2.2.1.2]; rfl)) ?_
    refine mw_go mu_g462 (k := 2) (f1 := (56, [(2, .inl (nI (clg (hmn (typ D v))))), (1, .inl (nI v)), (0, .inr (.inr (some 169)))], [.inl (mu_i H D.mp 6), .inr (.inr (some D.mp))], H)) (C := [mu_is H (some D.mp) 16]) rfl (show mu_is H (some D.mp) 16 from om1) ?_
    refine mw_fr (f' := (56, [(2, .inl (nI (clg (hmn (typ D v))))), (1, .inl (nI v)), (0, .inr (.inr (some 169)))], [.inl (nI (bsm D v)), .inr (.inr (some D.mp))], H)) (by first | (rw [h6]; done) | (rw [h6]; rfl)) ?_
    refine mw_go mu_g462 (k := 2) (f1 := (58, [(2, .inl (nI (clg (hmn (typ D v))))), (1, .inl (nI v)), (0, .inr (.inr (some 169)))], [.inl ((nI (bsm D v)) + (nI (clg (hmn (typ D v))))), .inr (.inr (some D.mp))], H)) (C := []) rfl trivial ?_
    refine mw_fr (f' := (58, [(2, .inl (nI (clg (hmn (typ D v))))), (1, .inl (nI v)), (0, .inr (.inr (some 169)))], [.inl (nI (bsm D (v + 1))), .inr (.inr (some D.mp))], H)) (by first | (rw [e6]; done) | (rw [e6]; rfl)) ?_
    refine mw_go mu_g462 (k := 1) (f1 := (61, [(2, .inl (nI (clg (hmn (typ D v))))), (1, .inl (nI v)), (0, .inr (.inr (some 169)))], [], (mu_si H D.mp 6 (nI (bsm D (v + 1)))))) (C := [mu_is H (some D.mp) 16]) rfl (show mu_is H (some D.mp) 16 from om1) ?_
    have hG := hr.1.1.1.2
    have hr2 := hr.wr (q := D.mp) (j := 6) (x := nI (bsm D (v + 1))) hG (Or.inl ⟨hr.1.1.1.1.2.2, Or.inl rfl⟩)
    have h62 : mu_i (mu_si H D.mp 6 (nI (bsm D (v + 1)))) D.mp 6 = nI (bsm D (v + 1)) := by rw [mu_i_si, if_pos ⟨rfl, rfl⟩]
    have hf2 := hf.si (q := D.mp) (j := 6) (x := nI (bsm D (v + 1))) hG
    refine mw_go mu_g462 (k := 2) (f1 := (10, [(1, .inl ((nI v) + 1)), (2, .inl (nI (clg (hmn (typ D v))))), (0, .inr (.inr (some 169)))], [], (mu_si H D.mp 6 (nI (bsm D (v + 1)))))) (C := []) rfl trivial ?_
    refine mw_sub (L' := [(1, .inl (nI (v + 1))), (0, .inr (.inr (some 169)))]) (by intro x hx; simp only [List.mem_cons, List.not_mem_nil, or_false] at hx ⊢; rcases hx with rfl | rfl <;> first | (simp [nI_add, show (1 : Int32) = nI 1 from rfl]; done) | simp [nI]) ?_
    exact rp_avS hb hy hm hnx m_ (v + 1) _ (by omega) hr2 h62 hf2
theorem rp_avY {Hb H0 : mu_H} {D : MD} {d v q : Nat} {B6 : Int32} {Φ : mu_R → Prop} (hb : mdb D) (hy : mdy D) (hv : v < (D.pr 1).length) (hq : nd Hb D.G D.lv q (typ D v)) (hq0 : mu_r Hb (D.loc 3) v = some q) (hnx : ∀ H, rms Hb D H → vfr D H0 H → (mu_i H D.mp 6 = B6 ∧ (∀ v2, v2 < v → ∀ k2, k2 < tsn (typ D v2) → tvo Hb D H v2 k2) ∧ ∀ k2, k2 < tsn (typ D v) → tvo Hb D H v k2) → mu_W (mu_D (d + 4)) mu_m462 (176, [(1, .inl (nI v)), (0, .inr (.inr (some 169)))], [], H) Φ) : ∀ m_ k H, k + m_ = tsn (typ D v) → rms Hb D H → vfr D H0 H → (mu_i H D.mp 6 = B6 ∧ (∀ v2, v2 < v → ∀ k2, k2 < tsn (typ D v2) → tvo Hb D H v2 k2) ∧ ∀ k2, k2 < k → tvo Hb D H v k2) → mu_W (mu_D (d + 4)) mu_m462 (113, [(3, .inl (nI k)), (2, .inr (.inr (some q))), (1, .inl (nI v)), (0, .inr (.inr (some 169)))], [], H) Φ
  | 0, k, H, hm_, hr, hf, hd => by
    obtain ⟨kd1, ⟨is1, nF1, lt1⟩, ⟨st1, sr1, sf1⟩, ⟨n2_1, n3_1, n7_1⟩, nm1, ar1, aq1, aF1, ai1, ⟨al1, am1, ax1⟩, ch1, dp1⟩ := nd.ra (c := (typ D v)) hq hr.2.1
    have hl := hq.s26
    refine mw_go mu_g462 (k := 2) (f1 := (117, [(3, .inl (nI k)), (2, .inr (.inr (some q))), (1, .inl (nI v)), (0, .inr (.inr (some 169)))], [.inr (.inr (some 1000069)), .inr (.inr (some q))], H)) (C := []) rfl trivial ?_
    refine mw_cIe (fun _ => rfl) (show mu_is H (some q) 18 from is1) (agr.isL (e := d + 1) (j := 69) hq hr.2.1 (by decide)) ?_
    refine mw_if (P := (if tkd (typ D v) = 69 then 1 else 0) = 0) (a := 176) (b := 123) (fun _ => rfl) trivial (fun hi2 => ?_) (fun hi2 => ?_)
    · -- 176
      have ek2 : ¬ tkd (typ D v) = 69 := fun e => by rw [if_pos e] at hi2; exact absurd hi2 (by decide)
      refine mw_sub (L' := [(1, .inl (nI v)), (0, .inr (.inr (some 169)))]) (by simp) ?_
      exact hnx _ hr hf ⟨hd.1, hd.2.1, fun k2 hk2 => fun _ _ _ _ _ _ z => absurd z ek2⟩
    · -- 123
      have ek2 : tkd (typ D v) = 69 := Decidable.byContradiction (fun e => hi2 (if_neg e))
      refine mw_go mu_g462 (k := 3) (f1 := (128, [(3, .inl (nI k)), (2, .inr (.inr (some q))), (1, .inl (nI v)), (0, .inr (.inr (some 169)))], [.inl (mu_i H q 2), .inl (nI k)], H)) (C := [mu_is H (some q) 18]) rfl (show mu_is H (some q) 18 from is1) ?_
      refine mw_fr (f' := (128, [(3, .inl (nI k)), (2, .inr (.inr (some q))), (1, .inl (nI v)), (0, .inr (.inr (some 169)))], [.inl (nI (tsn (typ D v))), .inl (nI k)], H)) (by first | (rw [n2_1]; done) | (rw [n2_1]; rfl)) ?_
      refine mw_if (P := (nI k) < (nI (tsn (typ D v)))) (a := 131) (b := 176) (fun _ => rfl) trivial (fun h1 => absurd h1 (by rw [show k = tsn (typ D v) by omega]; exact Int32.lt_irrefl)) (fun h1 => ?_)
      · -- 176
        refine mw_sub (L' := [(1, .inl (nI v)), (0, .inr (.inr (some 169)))]) (by simp) ?_
        exact hnx _ hr hf ⟨hd.1, hd.2.1, fun k2 hk2 => hd.2.2 k2 (by omega)⟩
  | m_ + 1, k, H, hm_, hr, hf, hd => by
    obtain ⟨kd1, ⟨is1, nF1, lt1⟩, ⟨st1, sr1, sf1⟩, ⟨n2_1, n3_1, n7_1⟩, nm1, ar1, aq1, aF1, ai1, ⟨al1, am1, ax1⟩, ch1, dp1⟩ := nd.ra (c := (typ D v)) hq hr.2.1
    have hl := hq.s26
    have kt : k < tsn (typ D v) := by omega
    refine mw_go mu_g462 (k := 2) (f1 := (117, [(3, .inl (nI k)), (2, .inr (.inr (some q))), (1, .inl (nI v)), (0, .inr (.inr (some 169)))], [.inr (.inr (some 1000069)), .inr (.inr (some q))], H)) (C := []) rfl trivial ?_
    refine mw_cIe (fun _ => rfl) (show mu_is H (some q) 18 from is1) (agr.isL (e := d + 1) (j := 69) hq hr.2.1 (by decide)) ?_
    refine mw_if (P := (if tkd (typ D v) = 69 then 1 else 0) = 0) (a := 176) (b := 123) (fun _ => rfl) trivial (fun hi2 => ?_) (fun hi2 => ?_)
    · -- 176
      have ek2 : ¬ tkd (typ D v) = 69 := fun e => by rw [if_pos e] at hi2; exact absurd hi2 (by decide)
      refine mw_sub (L' := [(1, .inl (nI v)), (0, .inr (.inr (some 169)))]) (by simp) ?_
      exact hnx _ hr hf ⟨hd.1, hd.2.1, fun k2 hk2 => fun _ _ _ _ _ _ z => absurd z ek2⟩
    · -- 123
      have ek2 : tkd (typ D v) = 69 := Decidable.byContradiction (fun e => hi2 (if_neg e))
      refine mw_go mu_g462 (k := 3) (f1 := (128, [(3, .inl (nI k)), (2, .inr (.inr (some q))), (1, .inl (nI v)), (0, .inr (.inr (some 169)))], [.inl (mu_i H q 2), .inl (nI k)], H)) (C := [mu_is H (some q) 18]) rfl (show mu_is H (some q) 18 from is1) ?_
      refine mw_fr (f' := (128, [(3, .inl (nI k)), (2, .inr (.inr (some q))), (1, .inl (nI v)), (0, .inr (.inr (some 169)))], [.inl (nI (tsn (typ D v))), .inl (nI k)], H)) (by first | (rw [n2_1]; done) | (rw [n2_1]; rfl)) ?_
      refine mw_if (P := (nI k) < (nI (tsn (typ D v)))) (a := 131) (b := 176) (fun _ => rfl) trivial (fun h1 => ?_) (fun h1 => absurd (nI_lt kt (by omega)) h1)
      · -- 131
        have vl := (hy v hv).1.val ek2 kt
        obtain ⟨y, yr3, yn3⟩ := ch1 k kt
        have yn3 : nd Hb D.G (D.lv - 1) y (tkk (typ D v) k) := yn3
        obtain ⟨b1_3, b2_3, b3_3, b4_3⟩ := ar_at ai1 (by decide) (Nat.lt_of_lt_of_le kt al1) (Nat.lt_of_le_of_lt ax1 (by decide))
        have y2_3 : mu_r H ar1 (nI k).toNatClampNeg = some y := by rw [b4_3]; exact yr3
        obtain ⟨kd4, ⟨is4, nF4, lt4⟩, ⟨st4, sr4, sf4⟩, ⟨n2_4, n3_4, n7_4⟩, nm4, ar4, aq4, aF4, ai4, ⟨al4, am4, ax4⟩, ch4, dp4⟩ := nd.ra (c := (tkk (typ D v) k)) yn3 hr.2.1
        refine mw_go mu_g462 (k := 2) (f1 := (135, [(3, .inl (nI k)), (2, .inr (.inr (some q))), (1, .inl (nI v)), (0, .inr (.inr (some 169)))], [.inr (.inr (mu_r H q 1))], H)) (C := [mu_is H (some q) 18]) rfl (show mu_is H (some q) 18 from is1) ?_
        refine mw_fr (f' := (135, [(3, .inl (nI k)), (2, .inr (.inr (some q))), (1, .inl (nI v)), (0, .inr (.inr (some 169)))], [.inr (.inr (some ar1))], H)) (by first | (rw [aq1]; done) | (rw [aq1]; rfl)) ?_
        refine mw_go mu_g462 (k := 2) (f1 := (137, [(3, .inl (nI k)), (2, .inr (.inr (some q))), (1, .inl (nI v)), (0, .inr (.inr (some 169)))], [.inr (.inr (mu_r H ar1 (nI k).toNatClampNeg))], H)) (C := [mu_is H (some ar1) (mu_k H ar1), 103 ≤ mu_k H ar1 ∧ mu_k H ar1 ≤ 110 ∧ mu_k H ar1 ≠ 108, vp_in (nI k) (mu_n H ar1)]) rfl (show (mu_is H (some ar1) (mu_k H ar1)) ∧ (103 ≤ mu_k H ar1 ∧ mu_k H ar1 ≤ 110 ∧ mu_k H ar1 ≠ 108) ∧ (vp_in (nI k) (mu_n H ar1)) from ⟨b1_3, b2_3, b3_3⟩) ?_
        refine mw_fr (f' := (137, [(3, .inl (nI k)), (2, .inr (.inr (some q))), (1, .inl (nI v)), (0, .inr (.inr (some 169)))], [.inr (.inr (some y))], H)) (by first | (rw [y2_3]; done) | (rw [y2_3]; rfl)) ?_
        refine mw_go mu_g462 (k := 1) (f1 := (140, [(3, .inl (nI k)), (2, .inr (.inr (some q))), (1, .inl (nI v)), (0, .inr (.inr (some 169)))], [.inr (.inr (some 1000070)), .inr (.inr (some y))], H)) (C := []) rfl trivial ?_
        refine mw_cIe (fun _ => rfl) (show mu_is H (some y) 18 from is4) (agr.isL (e := d + 1) (j := 70) yn3 hr.2.1 (by decide)) ?_
        refine mw_if (P := (if tkd (tkk (typ D v) k) = 70 then 1 else 0) = 0) (a := 170) (b := 146) (fun _ => rfl) trivial (fun hi5 => ?_) (fun hi5 => ?_)
        · -- 170
          have ek5 : ¬ tkd (tkk (typ D v) k) = 70 := fun e => by rw [if_pos e] at hi5; exact absurd hi5 (by decide)
          refine mw_go mu_g462 (k := 2) (f1 := (113, [(3, .inl ((nI k) + 1)), (2, .inr (.inr (some q))), (1, .inl (nI v)), (0, .inr (.inr (some 169)))], [], H)) (C := []) rfl trivial ?_
          refine mw_sub (L' := [(3, .inl (nI (k + 1))), (2, .inr (.inr (some q))), (1, .inl (nI v)), (0, .inr (.inr (some 169)))]) (by intro x hx; simp only [List.mem_cons, List.not_mem_nil, or_false] at hx ⊢; rcases hx with rfl | rfl | rfl | rfl <;> first | (simp [nI_add, show (1 : Int32) = nI 1 from rfl]; done) | simp [nI]) ?_
          exact rp_avY hb hy hv hq hq0 hnx m_ (k + 1) _ (by omega) hr hf ⟨hd.1, hd.2.1, fun k2 hk2 => by
              by_cases e9 : k2 = k
              · subst e9
                exact fun _ _ _ _ _ _ _ z => absurd z ek5
              · exact hd.2.2 k2 (by omega)⟩
        · -- 146
          have ek5 : tkd (tkk (typ D v) k) = 70 := Decidable.byContradiction (fun e => hi5 (if_neg e))
          have t1 := vl.1.resolve_left (fun z => by rw [z] at ek5; exact absurd ek5 (by decide))
          have n0 : 0 < (tns (tkk (typ D v) k)).length := by rw [t1.2]; exact Nat.one_pos
          obtain ⟨nb6, nr6, nbF6, ni6, nn6, nl6, nk6⟩ := nm4.rd n0
          obtain ⟨ns6, nz6, nf6⟩ := nk6 0 n0
          obtain ⟨c1_6, c2_6, c3_6, c4_6⟩ := ar_at (i := 0) ni6 (by decide) (by rw [nn6]; exact n0) (by rw [nn6]; omega)
          have nx6 : mu_r H nb6 (0 : Int32).toNatClampNeg = some ns6 := nz6
          refine mw_go mu_g462 (k := 2) (f1 := (150, [(3, .inl (nI k)), (2, .inr (.inr (some q))), (1, .inl (nI v)), (0, .inr (.inr (some 169)))], [.inr (.inr (mu_r H q 1))], H)) (C := [mu_is H (some q) 18]) rfl (show mu_is H (some q) 18 from is1) ?_
          refine mw_fr (f' := (150, [(3, .inl (nI k)), (2, .inr (.inr (some q))), (1, .inl (nI v)), (0, .inr (.inr (some 169)))], [.inr (.inr (some ar1))], H)) (by first | (rw [aq1]; done) | (rw [aq1]; rfl)) ?_
          refine mw_go mu_g462 (k := 2) (f1 := (152, [(3, .inl (nI k)), (2, .inr (.inr (some q))), (1, .inl (nI v)), (0, .inr (.inr (some 169)))], [.inr (.inr (mu_r H ar1 (nI k).toNatClampNeg))], H)) (C := [mu_is H (some ar1) (mu_k H ar1), 103 ≤ mu_k H ar1 ∧ mu_k H ar1 ≤ 110 ∧ mu_k H ar1 ≠ 108, vp_in (nI k) (mu_n H ar1)]) rfl (show (mu_is H (some ar1) (mu_k H ar1)) ∧ (103 ≤ mu_k H ar1 ∧ mu_k H ar1 ≤ 110 ∧ mu_k H ar1 ≠ 108) ∧ (vp_in (nI k) (mu_n H ar1)) from ⟨b1_3, b2_3, b3_3⟩) ?_
          refine mw_fr (f' := (152, [(3, .inl (nI k)), (2, .inr (.inr (some q))), (1, .inl (nI v)), (0, .inr (.inr (some 169)))], [.inr (.inr (some y))], H)) (by first | (rw [y2_3]; done) | (rw [y2_3]; rfl)) ?_
          refine mw_go mu_g462 (k := 3) (f1 := (157, [(3, .inl (nI k)), (2, .inr (.inr (some q))), (1, .inl (nI v)), (0, .inr (.inr (some 169)))], [.inr (.inr (mu_r H q 1)), .inr (.inr (some 169)), .inr (.inr (some y))], H)) (C := [mu_is H (some q) 18]) rfl (show mu_is H (some q) 18 from is1) ?_
          refine mw_fr (f' := (157, [(3, .inl (nI k)), (2, .inr (.inr (some q))), (1, .inl (nI v)), (0, .inr (.inr (some 169)))], [.inr (.inr (some ar1)), .inr (.inr (some 169)), .inr (.inr (some y))], H)) (by first | (rw [aq1]; done) | (rw [aq1]; rfl)) ?_
          refine mw_go mu_g462 (k := 2) (f1 := (159, [(3, .inl (nI k)), (2, .inr (.inr (some q))), (1, .inl (nI v)), (0, .inr (.inr (some 169)))], [.inr (.inr (mu_r H ar1 (nI k).toNatClampNeg)), .inr (.inr (some 169)), .inr (.inr (some y))], H)) (C := [mu_is H (some ar1) (mu_k H ar1), 103 ≤ mu_k H ar1 ∧ mu_k H ar1 ≤ 110 ∧ mu_k H ar1 ≠ 108, vp_in (nI k) (mu_n H ar1)]) rfl (show (mu_is H (some ar1) (mu_k H ar1)) ∧ (103 ≤ mu_k H ar1 ∧ mu_k H ar1 ≤ 110 ∧ mu_k H ar1 ≠ 108) ∧ (vp_in (nI k) (mu_n H ar1)) from ⟨b1_3, b2_3, b3_3⟩) ?_
          refine mw_fr (f' := (159, [(3, .inl (nI k)), (2, .inr (.inr (some q))), (1, .inl (nI v)), (0, .inr (.inr (some 169)))], [.inr (.inr (some y)), .inr (.inr (some 169)), .inr (.inr (some y))], H)) (by first | (rw [y2_3]; done) | (rw [y2_3]; rfl)) ?_
          refine mw_go mu_g462 (k := 1) (f1 := (162, [(3, .inl (nI k)), (2, .inr (.inr (some q))), (1, .inl (nI v)), (0, .inr (.inr (some 169)))], [.inr (.inr (mu_r H y 4)), .inr (.inr (some 169)), .inr (.inr (some y))], H)) (C := [mu_is H (some y) 18]) rfl (show mu_is H (some y) 18 from is4) ?_
          refine mw_fr (f' := (162, [(3, .inl (nI k)), (2, .inr (.inr (some q))), (1, .inl (nI v)), (0, .inr (.inr (some 169)))], [.inr (.inr (some nb6)), .inr (.inr (some 169)), .inr (.inr (some y))], H)) (by first | (rw [nr6]; done) | (rw [nr6]; rfl)) ?_
          refine mw_go mu_g462 (k := 2) (f1 := (164, [(3, .inl (nI k)), (2, .inr (.inr (some q))), (1, .inl (nI v)), (0, .inr (.inr (some 169)))], [.inr (.inr (mu_r H nb6 (0 : Int32).toNatClampNeg)), .inr (.inr (some 169)), .inr (.inr (some y))], H)) (C := [mu_is H (some nb6) (mu_k H nb6), 103 ≤ mu_k H nb6 ∧ mu_k H nb6 ≤ 110 ∧ mu_k H nb6 ≠ 108, vp_in (0 : Int32) (mu_n H nb6)]) rfl (show (mu_is H (some nb6) (mu_k H nb6)) ∧ (103 ≤ mu_k H nb6 ∧ mu_k H nb6 ≤ 110 ∧ mu_k H nb6 ≠ 108) ∧ (vp_in (0 : Int32) (mu_n H nb6)) from ⟨c1_6, c2_6, c3_6⟩) ?_
          refine mw_fr (f' := (164, [(3, .inl (nI k)), (2, .inr (.inr (some q))), (1, .inl (nI v)), (0, .inr (.inr (some 169)))], [.inr (.inr (some ns6)), .inr (.inr (some 169)), .inr (.inr (some y))], H)) (by first | (rw [nx6]; done) | (rw [nx6]; rfl)) ?_
          refine mw_cIe (fun _ => rfl) (show mu_is H (some 169) 1 from hr.2.2.1.1) (rp_symbol (d := d + 1) hr.2.2.1.1 hr.syl nf6.1 (Nat.lt_trans nf6.2.2 (by decide))) ?_
          refine mw_go mu_g462 (k := 1) (f1 := (170, [(3, .inl (nI k)), (2, .inr (.inr (some q))), (1, .inl (nI v)), (0, .inr (.inr (some 169)))], [], (mu_si H y 3 (syn D (nam (tkk (typ D v) k)))))) (C := [mu_is H (some y) 18]) rfl (show mu_is H (some y) 18 from is4) ?_
          have hG : D.G y := (yn3.rd).2.1.2.1
          have yk : mu_k Hb y = 18 := (yn3.rd).2.1.1.2.2
          have y7 : mu_i Hb y 7 ≠ 1 := by rw [(yn3.rd).2.2.2.1.2.2, ek5]; decide
          have hr2 := hr.wr (q := y) (j := 3) (x := syn D (nam (tkk (typ D v) k))) hG (Or.inr ⟨yk, rfl, y7⟩)
          have hf2 := hf.si (q := y) (j := 3) (x := syn D (nam (tkk (typ D v) k))) hG
          refine mw_go mu_g462 (k := 2) (f1 := (113, [(3, .inl ((nI k) + 1)), (2, .inr (.inr (some q))), (1, .inl (nI v)), (0, .inr (.inr (some 169)))], [], (mu_si H y 3 (syn D (nam (tkk (typ D v) k)))))) (C := []) rfl trivial ?_
          refine mw_sub (L' := [(3, .inl (nI (k + 1))), (2, .inr (.inr (some q))), (1, .inl (nI v)), (0, .inr (.inr (some 169)))]) (by intro x hx; simp only [List.mem_cons, List.not_mem_nil, or_false] at hx ⊢; rcases hx with rfl | rfl | rfl | rfl <;> first | (simp [nI_add, show (1 : Int32) = nI 1 from rfl]; done) | simp [nI]) ?_
          exact rp_avY hb hy hv hq hq0 hnx m_ (k + 1) _ (by omega) hr2 hf2 ⟨(by rw [mu_i_si, if_neg (fun z => (by have w9 := hr.1.1.1.1.2.2; rw [show mu_p (some D.mp) = D.mp from rfl, z.1, yk] at w9; exact absurd w9 (by decide)))]; exact hd.1), fun v2 hv2 k2 hk2 => (hd.2.1 v2 hv2 k2 hk2).wr hr hy (by omega) hk2 yn3 n0, fun k2 hk2 => by
              by_cases e9 : k2 = k
              · subst e9
                intro q9 a9 y9 w1 w2 w3 w4 w5
                rw [hq0] at w1
                cases w1
                have z1 := hr.2.1.rk (hq.rd).2.1.2.1 (hq.rd).2.1.1 (by decide) 1
                rw [w2, aq1] at z1
                cases z1
                have z2 := yr3
                obtain ⟨_, _, _, _, _, a8, a81, a82, a83, _⟩ := hq.rd
                rw [w2] at a81
                cases a81
                have z3 := hr.2.1.rk a82 a83 (by decide) k2
                rw [w3] at z3
                rw [z3] at z2
                cases z2
                rw [mu_i_si, if_pos ⟨rfl, rfl⟩]
              · exact (hd.2.2 k2 (by omega)).wr hr hy hv (by omega) yn3 n0⟩
theorem rp_avO {Hb H0 : mu_H} {D : MD} {d : Nat} {B6 : Int32} {Φ : mu_R → Prop} (hb : mdb D) (hy : mdy D) (hfin : ∀ H, rms Hb D H → vfr D H0 H → mu_i H D.mp 6 = B6 → (∀ v, v < (D.pr 1).length → ∀ k, k < tsn (typ D v) → tvo Hb D H v k) → Φ (.inl none, H)) : ∀ m_ v H, v + m_ = (D.pr 1).length → rms Hb D H → vfr D H0 H → mu_i H D.mp 6 = B6 → (∀ v2, v2 < v → ∀ k2, k2 < tsn (typ D v2) → tvo Hb D H v2 k2) → mu_W (mu_D (d + 4)) mu_m462 (90, [(1, .inl (nI v)), (0, .inr (.inr (some 169)))], [], H) Φ
  | 0, v, H, hm_, hr, hf, h6, hd => by
    obtain ⟨om1, ⟨om0_1, om1_1⟩, ol1, on1, oc1, oj1⟩ := hr.mod
    obtain ⟨⟨pa2, pb2, pc2⟩, ⟨pd2, pe2, pf2⟩, pg2, ph2, pi2⟩ := hr.row (k := 1) (by decide)
    have b5 := hb.2.2.1
    refine mw_go mu_g462 (k := 3) (f1 := (95, [(1, .inl (nI v)), (0, .inr (.inr (some 169)))], [.inr (.inr (mu_r H 169 18)), .inl (nI v)], H)) (C := [mu_is H (some 169) 1]) rfl (show mu_is H (some 169) 1 from hr.2.2.1.1) ?_
    refine mw_fr (f' := (95, [(1, .inl (nI v)), (0, .inr (.inr (some 169)))], [.inr (.inr (some D.mp)), .inl (nI v)], H)) (by first | (rw [hr.2.2.1.2]; done) | (rw [hr.2.2.1.2]; rfl)) ?_
    refine mw_go mu_g462 (k := 1) (f1 := (98, [(1, .inl (nI v)), (0, .inr (.inr (some 169)))], [.inl (mu_i H D.mp 5), .inl (nI v)], H)) (C := [mu_is H (some D.mp) 16]) rfl (show mu_is H (some D.mp) 16 from om1) ?_
    refine mw_fr (f' := (98, [(1, .inl (nI v)), (0, .inr (.inr (some 169)))], [.inl (nI (D.pr 1).length), .inl (nI v)], H)) (by first | (rw [(show mu_i H D.mp 5 = nI (D.pr 1).length from pc2)]; done) | (rw [(show mu_i H D.mp 5 = nI (D.pr 1).length from pc2)]; rfl)) ?_
    refine mw_if (P := (nI v) < (nI (D.pr 1).length)) (a := 101) (b := 182) (fun _ => rfl) trivial (fun h1 => absurd h1 (by rw [show v = (D.pr 1).length by omega]; exact Int32.lt_irrefl)) (fun h1 => ?_)
    exact mw_of (fun _ => mu_ret rfl trivial (hfin _ hr hf h6 (fun v2 hv2 => hd v2 (by omega))))
  | m_ + 1, v, H, hm_, hr, hf, h6, hd => by
    obtain ⟨om1, ⟨om0_1, om1_1⟩, ol1, on1, oc1, oj1⟩ := hr.mod
    obtain ⟨⟨pa2, pb2, pc2⟩, ⟨pd2, pe2, pf2⟩, pg2, ph2, pi2⟩ := hr.row (k := 1) (by decide)
    have b5 := hb.2.2.1
    have hv : v < (D.pr 1).length := by omega
    obtain ⟨q, qr3, qn3⟩ := pf2 v hv
    obtain ⟨ra3, rb3, rc3, rd3⟩ := ar_at (i := v) pd2 (by decide) (by omega) (by omega)
    have re3 : mu_r H (D.loc 3) (nI v).toNatClampNeg = some q := by rw [rd3]; exact qr3
    refine mw_go mu_g462 (k := 3) (f1 := (95, [(1, .inl (nI v)), (0, .inr (.inr (some 169)))], [.inr (.inr (mu_r H 169 18)), .inl (nI v)], H)) (C := [mu_is H (some 169) 1]) rfl (show mu_is H (some 169) 1 from hr.2.2.1.1) ?_
    refine mw_fr (f' := (95, [(1, .inl (nI v)), (0, .inr (.inr (some 169)))], [.inr (.inr (some D.mp)), .inl (nI v)], H)) (by first | (rw [hr.2.2.1.2]; done) | (rw [hr.2.2.1.2]; rfl)) ?_
    refine mw_go mu_g462 (k := 1) (f1 := (98, [(1, .inl (nI v)), (0, .inr (.inr (some 169)))], [.inl (mu_i H D.mp 5), .inl (nI v)], H)) (C := [mu_is H (some D.mp) 16]) rfl (show mu_is H (some D.mp) 16 from om1) ?_
    refine mw_fr (f' := (98, [(1, .inl (nI v)), (0, .inr (.inr (some 169)))], [.inl (nI (D.pr 1).length), .inl (nI v)], H)) (by first | (rw [(show mu_i H D.mp 5 = nI (D.pr 1).length from pc2)]; done) | (rw [(show mu_i H D.mp 5 = nI (D.pr 1).length from pc2)]; rfl)) ?_
    refine mw_if (P := (nI v) < (nI (D.pr 1).length)) (a := 101) (b := 182) (fun _ => rfl) trivial (fun h1 => ?_) (fun h1 => absurd (nI_lt hv (by omega)) h1)
    refine mw_go mu_g462 (k := 2) (f1 := (105, [(1, .inl (nI v)), (0, .inr (.inr (some 169)))], [.inr (.inr (mu_r H 169 18))], H)) (C := [mu_is H (some 169) 1]) rfl (show mu_is H (some 169) 1 from hr.2.2.1.1) ?_
    refine mw_fr (f' := (105, [(1, .inl (nI v)), (0, .inr (.inr (some 169)))], [.inr (.inr (some D.mp))], H)) (by first | (rw [hr.2.2.1.2]; done) | (rw [hr.2.2.1.2]; rfl)) ?_
    refine mw_go mu_g462 (k := 1) (f1 := (108, [(1, .inl (nI v)), (0, .inr (.inr (some 169)))], [.inr (.inr (mu_r H D.mp 4))], H)) (C := [mu_is H (some D.mp) 16]) rfl (show mu_is H (some D.mp) 16 from om1) ?_
    refine mw_fr (f' := (108, [(1, .inl (nI v)), (0, .inr (.inr (some 169)))], [.inr (.inr (some (D.loc 3)))], H)) (by first | (rw [(show mu_r H D.mp 4 = some (D.loc 3) from pa2)]; done) | (rw [(show mu_r H D.mp 4 = some (D.loc 3) from pa2)]; rfl)) ?_
    refine mw_go mu_g462 (k := 2) (f1 := (110, [(1, .inl (nI v)), (0, .inr (.inr (some 169)))], [.inr (.inr (mu_r H (D.loc 3) (nI v).toNatClampNeg))], H)) (C := [mu_is H (some (D.loc 3)) (mu_k H (D.loc 3)), 103 ≤ mu_k H (D.loc 3) ∧ mu_k H (D.loc 3) ≤ 110 ∧ mu_k H (D.loc 3) ≠ 108, vp_in (nI v) (mu_n H (D.loc 3))]) rfl (show (mu_is H (some (D.loc 3)) (mu_k H (D.loc 3))) ∧ (103 ≤ mu_k H (D.loc 3) ∧ mu_k H (D.loc 3) ≤ 110 ∧ mu_k H (D.loc 3) ≠ 108) ∧ (vp_in (nI v) (mu_n H (D.loc 3))) from ⟨ra3, rb3, rc3⟩) ?_
    refine mw_fr (f' := (110, [(1, .inl (nI v)), (0, .inr (.inr (some 169)))], [.inr (.inr (some q))], H)) (by first | (rw [re3]; done) | (rw [re3]; rfl)) ?_
    refine mw_go mu_g462 (k := 3) (f1 := (113, [(3, .inl (0 : Int32)), (2, .inr (.inr (some q))), (1, .inl (nI v)), (0, .inr (.inr (some 169)))], [], H)) (C := []) rfl trivial ?_
    refine mw_sub (L' := [(3, .inl (nI 0)), (2, .inr (.inr (some q))), (1, .inl (nI v)), (0, .inr (.inr (some 169)))]) (by intro x hx; simp only [List.mem_cons, List.not_mem_nil, or_false] at hx ⊢; rcases hx with rfl | rfl | rfl | rfl <;> simp [nI]) ?_
    have q0 : mu_r Hb (D.loc 3) v = some q := by
      have g := (hr.1.2.2.1 1 (by decide)).2.1
      exact (hr.2.1.rk (p := D.loc 3) g.1 g.2.1 (by decide) v).symm.trans qr3
    refine rp_avY (H0 := H0) hb hy hv qn3 q0 (fun H1 r1 f1 z1 => ?_) (tsn (typ D v)) 0 _ (Nat.zero_add _) hr hf ⟨h6, fun v2 hv2 => hd v2 hv2, fun k2 hk2 => absurd hk2 (Nat.not_lt_zero _)⟩
    refine mw_go mu_g462 (k := 2) (f1 := (90, [(1, .inl ((nI v) + 1)), (0, .inr (.inr (some 169)))], [], H1)) (C := []) rfl trivial ?_
    refine mw_sub (L' := [(1, .inl (nI (v + 1))), (0, .inr (.inr (some 169)))]) (by intro x hx; simp only [List.mem_cons, List.not_mem_nil, or_false] at hx ⊢; rcases hx with rfl | rfl <;> first | (simp [nI_add, show (1 : Int32) = nI 1 from rfl]; done) | simp [nI]) ?_
    exact rp_avO hb hy hfin m_ (v + 1) _ (by omega) r1 f1 z1.1 (fun v2 hv2 => by
        by_cases e : v2 = v
        · subst e; exact z1.2.2
        · exact z1.2.1 v2 (by omega))
