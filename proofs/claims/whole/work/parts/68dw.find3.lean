/-! The reference: find, what stands for a name -/
def fvS (x : Ins) : Option Nat → Option Nat → Int32
  | some p, _ => nI x.2.1 + nI p
  | none, none => -1
  | none, some q => x.2.2.2.2 q
theorem rp_fd4 {d nb : Nat} {Hb H : mu_H} {D : MD} {ns : List (List Int32)} {Φ : mu_R → Prop} (hr : rms Hb D H) (hbi : mu_is H (some nb) 103 ∧ mu_n H nb = ns.length ∧ ns.length ≤ 65536) (hbs : ∀ i, i < ns.length → ∃ s, mu_r H nb i = some s ∧ stf H D.G s (ns.getD i [])) {j : Nat} (hj : j < D.n) (hns : 0 < ns.length) {s : Nat} {P E V : Option Nat} (hP : ∀ p, P = some p → p < 2 ^ 31) (hD : ∀ q, E = some q → q < (D.md j).2.2.length) (hnx : mu_W (mu_D (d + 5)) mu_m434 (182, [(7, .inl (oI V)), (6, .inl (oI E)), (5, .inl (oI P)), (4, .inr (.inr (some s))), (3, .inr (.inr (some (D.ip j)))), (2, .inr (.inr (some nb))), (0, .inr (.inr (some 169)))], [], (mu_si H 169 21 (fvS (D.Iv j) P E))) Φ) : mu_W (mu_D (d + 5)) mu_m434 (147, [(7, .inl (oI V)), (6, .inl (oI E)), (5, .inl (oI P)), (4, .inr (.inr (some s))), (3, .inr (.inr (some (D.ip j)))), (2, .inr (.inr (some nb))), (0, .inr (.inr (some 169)))], [], H) Φ := by
  cases P with
  | some p =>
    show mu_W _ _ (147, [(7, .inl (oI V)), (6, .inl (oI E)), (5, .inl (nI p)), (4, .inr (.inr (some s))), (3, .inr (.inr (some (D.ip j)))), (2, .inr (.inr (some nb))), (0, .inr (.inr (some 169)))], [], H) _
    obtain ⟨ia1, ⟨m, im1, id1⟩, ig1, ⟨iv1, ii1, if1⟩, vz1, nz1, dz1, wf1, w31_1⟩ := hr.ins hj
    refine mw_go mu_g434 (k := 2) (f1 := (150, [(7, .inl (oI V)), (6, .inl (oI E)), (5, .inl (nI p)), (4, .inr (.inr (some s))), (3, .inr (.inr (some (D.ip j)))), (2, .inr (.inr (some nb))), (0, .inr (.inr (some 169)))], [.inl (nI p), .inr (.inr (some 169))], H)) (C := []) rfl trivial ?_
    have hp31 := hP p rfl
    refine mw_if (P := (nI p) < 0) (a := 163) (b := 153) (fun _ => rfl) trivial (fun h2 => absurd h2 (nI_nn hp31)) (fun h2 => ?_)
    · -- 153
      refine mw_go mu_g434 (k := 2) (f1 := (157, [(7, .inl (oI V)), (6, .inl (oI E)), (5, .inl (nI p)), (4, .inr (.inr (some s))), (3, .inr (.inr (some (D.ip j)))), (2, .inr (.inr (some nb))), (0, .inr (.inr (some 169)))], [.inl (mu_i H (D.ip j) 2), .inr (.inr (some 169))], H)) (C := [mu_is H (some (D.ip j)) 15]) rfl (show mu_is H (some (D.ip j)) 15 from ia1) ?_
      refine mw_fr (f' := (157, [(7, .inl (oI V)), (6, .inl (oI E)), (5, .inl (nI p)), (4, .inr (.inr (some s))), (3, .inr (.inr (some (D.ip j)))), (2, .inr (.inr (some nb))), (0, .inr (.inr (some 169)))], [.inl (nI (D.Iv j).2.1), .inr (.inr (some 169))], H)) (by first | (rw [ig1]; done) | (rw [ig1]; rfl)) ?_
      refine mw_go mu_g434 (k := 4) (f1 := (182, [(7, .inl (oI V)), (6, .inl (oI E)), (5, .inl (nI p)), (4, .inr (.inr (some s))), (3, .inr (.inr (some (D.ip j)))), (2, .inr (.inr (some nb))), (0, .inr (.inr (some 169)))], [], (mu_si H 169 21 ((nI (D.Iv j).2.1) + (nI p))))) (C := [mu_is H (some 169) 1]) rfl (show mu_is H (some 169) 1 from hr.2.2.1.1) ?_
      refine mw_sub (L' := [(7, .inl (oI V)), (6, .inl (oI E)), (5, .inl (oI (some p))), (4, .inr (.inr (some s))), (3, .inr (.inr (some (D.ip j)))), (2, .inr (.inr (some nb))), (0, .inr (.inr (some 169)))]) (by simp [oI]) ?_
      exact hnx
  | none =>
   cases E with
   | none =>
    show mu_W _ _ (147, [(7, .inl (oI V)), (6, .inl (-1 : Int32)), (5, .inl (-1 : Int32)), (4, .inr (.inr (some s))), (3, .inr (.inr (some (D.ip j)))), (2, .inr (.inr (some nb))), (0, .inr (.inr (some 169)))], [], H) _
    obtain ⟨ia1, ⟨m, im1, id1⟩, ig1, ⟨iv1, ii1, if1⟩, vz1, nz1, dz1, wf1, w31_1⟩ := hr.ins hj
    refine mw_go mu_g434 (k := 2) (f1 := (150, [(7, .inl (oI V)), (6, .inl (-1 : Int32)), (5, .inl (-1 : Int32)), (4, .inr (.inr (some s))), (3, .inr (.inr (some (D.ip j)))), (2, .inr (.inr (some nb))), (0, .inr (.inr (some 169)))], [.inl (-1 : Int32), .inr (.inr (some 169))], H)) (C := []) rfl trivial ?_
    refine mw_if (P := (-1 : Int32) < 0) (a := 163) (b := 153) (fun _ => rfl) trivial (fun h2 => ?_) (fun h2 => absurd (show (-1 : Int32) < 0 by decide) h2)
    · -- 163
      refine mw_go mu_g434 (k := 1) (f1 := (165, [(7, .inl (oI V)), (6, .inl (-1 : Int32)), (5, .inl (-1 : Int32)), (4, .inr (.inr (some s))), (3, .inr (.inr (some (D.ip j)))), (2, .inr (.inr (some nb))), (0, .inr (.inr (some 169)))], [.inl (-1 : Int32), .inr (.inr (some 169))], H)) (C := []) rfl trivial ?_
      refine mw_if (P := (-1 : Int32) < 0) (a := 178) (b := 168) (fun _ => rfl) trivial (fun h3 => ?_) (fun h3 => absurd (show (-1 : Int32) < 0 by decide) h3)
      · -- 178
        refine mw_go mu_g434 (k := 2) (f1 := (182, [(7, .inl (oI V)), (6, .inl (-1 : Int32)), (5, .inl (-1 : Int32)), (4, .inr (.inr (some s))), (3, .inr (.inr (some (D.ip j)))), (2, .inr (.inr (some nb))), (0, .inr (.inr (some 169)))], [], (mu_si H 169 21 (-1 : Int32)))) (C := [mu_is H (some 169) 1]) rfl (show mu_is H (some 169) 1 from hr.2.2.1.1) ?_
        refine mw_sub (L' := [(7, .inl (oI V)), (6, .inl (oI none)), (5, .inl (oI none)), (4, .inr (.inr (some s))), (3, .inr (.inr (some (D.ip j)))), (2, .inr (.inr (some nb))), (0, .inr (.inr (some 169)))]) (by simp [oI]) ?_
        exact hnx
   | some q =>
    show mu_W _ _ (147, [(7, .inl (oI V)), (6, .inl (nI q)), (5, .inl (-1 : Int32)), (4, .inr (.inr (some s))), (3, .inr (.inr (some (D.ip j)))), (2, .inr (.inr (some nb))), (0, .inr (.inr (some 169)))], [], H) _
    obtain ⟨ia1, ⟨m, im1, id1⟩, ig1, ⟨iv1, ii1, if1⟩, vz1, nz1, dz1, wf1, w31_1⟩ := hr.ins hj
    have hq := hD q rfl
    have gx : mu_i H (D.dd j) (nI q).toNatClampNeg = (D.Iv j).2.2.2.2 q := by rw [nI_clamp (show q < 2 ^ 31 by omega)]; exact dz1.2.2 q hq
    have gi : vp_in (nI q) (mu_n H (D.dd j)) := by rw [dz1.2.1]; exact vp_in_nI hq (by omega)
    refine mw_go mu_g434 (k := 2) (f1 := (150, [(7, .inl (oI V)), (6, .inl (nI q)), (5, .inl (-1 : Int32)), (4, .inr (.inr (some s))), (3, .inr (.inr (some (D.ip j)))), (2, .inr (.inr (some nb))), (0, .inr (.inr (some 169)))], [.inl (-1 : Int32), .inr (.inr (some 169))], H)) (C := []) rfl trivial ?_
    refine mw_if (P := (-1 : Int32) < 0) (a := 163) (b := 153) (fun _ => rfl) trivial (fun h2 => ?_) (fun h2 => absurd (show (-1 : Int32) < 0 by decide) h2)
    · -- 163
      refine mw_go mu_g434 (k := 1) (f1 := (165, [(7, .inl (oI V)), (6, .inl (nI q)), (5, .inl (-1 : Int32)), (4, .inr (.inr (some s))), (3, .inr (.inr (some (D.ip j)))), (2, .inr (.inr (some nb))), (0, .inr (.inr (some 169)))], [.inl (nI q), .inr (.inr (some 169))], H)) (C := []) rfl trivial ?_
      refine mw_if (P := (nI q) < 0) (a := 178) (b := 168) (fun _ => rfl) trivial (fun h3 => absurd h3 (nI_nn (by omega))) (fun h3 => ?_)
      · -- 168
        refine mw_go mu_g434 (k := 2) (f1 := (172, [(7, .inl (oI V)), (6, .inl (nI q)), (5, .inl (-1 : Int32)), (4, .inr (.inr (some s))), (3, .inr (.inr (some (D.ip j)))), (2, .inr (.inr (some nb))), (0, .inr (.inr (some 169)))], [.inr (.inr (mu_r H (D.ip j) 5)), .inr (.inr (some 169))], H)) (C := [mu_is H (some (D.ip j)) 15]) rfl (show mu_is H (some (D.ip j)) 15 from ia1) ?_
        refine mw_fr (f' := (172, [(7, .inl (oI V)), (6, .inl (nI q)), (5, .inl (-1 : Int32)), (4, .inr (.inr (some s))), (3, .inr (.inr (some (D.ip j)))), (2, .inr (.inr (some nb))), (0, .inr (.inr (some 169)))], [.inr (.inr (some (D.dd j))), .inr (.inr (some 169))], H)) (by first | (rw [if1]; done) | (rw [if1]; rfl)) ?_
        refine mw_go mu_g434 (k := 2) (f1 := (175, [(7, .inl (oI V)), (6, .inl (nI q)), (5, .inl (-1 : Int32)), (4, .inr (.inr (some s))), (3, .inr (.inr (some (D.ip j)))), (2, .inr (.inr (some nb))), (0, .inr (.inr (some 169)))], [.inl (mu_i H (D.dd j) (nI q).toNatClampNeg), .inr (.inr (some 169))], H)) (C := [mu_isr H (some (D.dd j)) 100, vp_in (nI q) (mu_n H (D.dd j))]) rfl (show (mu_isr H (some (D.dd j)) 100) ∧ (vp_in (nI q) (mu_n H (D.dd j))) from ⟨dz1.1.r, gi⟩) ?_
        refine mw_fr (f' := (175, [(7, .inl (oI V)), (6, .inl (nI q)), (5, .inl (-1 : Int32)), (4, .inr (.inr (some s))), (3, .inr (.inr (some (D.ip j)))), (2, .inr (.inr (some nb))), (0, .inr (.inr (some 169)))], [.inl ((D.Iv j).2.2.2.2 q), .inr (.inr (some 169))], H)) (by first | (rw [gx]; done) | (rw [gx]; rfl)) ?_
        refine mw_go mu_g434 (k := 2) (f1 := (182, [(7, .inl (oI V)), (6, .inl (nI q)), (5, .inl (-1 : Int32)), (4, .inr (.inr (some s))), (3, .inr (.inr (some (D.ip j)))), (2, .inr (.inr (some nb))), (0, .inr (.inr (some 169)))], [], (mu_si H 169 21 ((D.Iv j).2.2.2.2 q)))) (C := [mu_is H (some 169) 1]) rfl (show mu_is H (some 169) 1 from hr.2.2.1.1) ?_
        refine mw_sub (L' := [(7, .inl (oI V)), (6, .inl (oI (some q))), (5, .inl (oI none)), (4, .inr (.inr (some s))), (3, .inr (.inr (some (D.ip j)))), (2, .inr (.inr (some nb))), (0, .inr (.inr (some 169)))]) (by simp [oI]) ?_
        exact hnx
theorem rp_fd5 {d nb : Nat} {Hb H : mu_H} {D : MD} {ns : List (List Int32)} {Φ : mu_R → Prop} (hr : rms Hb D H) (hbi : mu_is H (some nb) 103 ∧ mu_n H nb = ns.length ∧ ns.length ≤ 65536) (hbs : ∀ i, i < ns.length → ∃ s, mu_r H nb i = some s ∧ stf H D.G s (ns.getD i [])) {j : Nat} (hj : j < D.n) (hns : 0 < ns.length) {s : Nat} {V : Option Nat} {a c : Int32} (sf : stf H D.G s (ns.getD (ns.length - 1) [])) (h19 : mu_i H 169 19 = a) (h21 : mu_i H 169 21 = c) (hV : ∀ q, V = some q → q < 2 ^ 31) (hE1 : V.isSome = true → a < 0 → Φ (.inr 2, mu_ex H)) (hA : V.isSome = true → ¬ a < 0 → Φ (.inl none, H)) (hB : V = none → ¬ c < 0 → Φ (.inl none, H)) (hE2 : V = none → c < 0 → (if ns.length = 1 then fid (fun i => decide (D.sy.getD i [] = (ns.getD (ns.length - 1) []))) D.sy.length 0 else -1) < 0 → Φ (.inr 2, mu_ex (mu_si H 169 20 (if ns.length = 1 then fid (fun i => decide (D.sy.getD i [] = (ns.getD (ns.length - 1) []))) D.sy.length 0 else -1)))) (hC : V = none → c < 0 → ¬ (if ns.length = 1 then fid (fun i => decide (D.sy.getD i [] = (ns.getD (ns.length - 1) []))) D.sy.length 0 else -1) < 0 → Φ (.inl none, (mu_si H 169 20 (if ns.length = 1 then fid (fun i => decide (D.sy.getD i [] = (ns.getD (ns.length - 1) []))) D.sy.length 0 else -1)))) : mu_W (mu_D (d + 5)) mu_m434 (182, [(7, .inl (oI V)), (4, .inr (.inr (some s))), (3, .inr (.inr (some (D.ip j)))), (2, .inr (.inr (some nb))), (0, .inr (.inr (some 169)))], [], H) Φ := by
  cases V with
  | some q =>
    show mu_W _ _ (182, [(7, .inl (nI q)), (4, .inr (.inr (some s))), (3, .inr (.inr (some (D.ip j)))), (2, .inr (.inr (some nb))), (0, .inr (.inr (some 169)))], [], H) _
    obtain ⟨ia1, ⟨m, im1, id1⟩, ig1, ⟨iv1, ii1, if1⟩, vz1, nz1, dz1, wf1, w31_1⟩ := hr.ins hj
    refine mw_go mu_g434 (k := 1) (f1 := (184, [(7, .inl (nI q)), (4, .inr (.inr (some s))), (3, .inr (.inr (some (D.ip j)))), (2, .inr (.inr (some nb))), (0, .inr (.inr (some 169)))], [.inl (nI q)], H)) (C := []) rfl trivial ?_
    have hq31 := hV q rfl
    refine mw_if (P := (nI q) < 0) (a := 206) (b := 187) (fun _ => rfl) trivial (fun h2 => absurd h2 (nI_nn hq31)) (fun h2 => ?_)
    · -- 187
      refine mw_go mu_g434 (k := 3) (f1 := (192, [(7, .inl (nI q)), (4, .inr (.inr (some s))), (3, .inr (.inr (some (D.ip j)))), (2, .inr (.inr (some nb))), (0, .inr (.inr (some 169)))], [.inl (mu_i H 169 19), .inr (.inr (some 169))], H)) (C := [mu_is H (some 169) 1]) rfl (show mu_is H (some 169) 1 from hr.2.2.1.1) ?_
      refine mw_fr (f' := (192, [(7, .inl (nI q)), (4, .inr (.inr (some s))), (3, .inr (.inr (some (D.ip j)))), (2, .inr (.inr (some nb))), (0, .inr (.inr (some 169)))], [.inl a, .inr (.inr (some 169))], H)) (by first | (rw [h19]; done) | (rw [h19]; rfl)) ?_
      refine mw_if (P := a < 0) (a := 199) (b := 195) (fun _ => rfl) trivial (fun h3 => ?_) (fun h3 => ?_)
      · -- 199
        refine mw_go mu_g434 (k := 1) (f1 := (200, [(7, .inl (nI q)), (4, .inr (.inr (some s))), (3, .inr (.inr (some (D.ip j)))), (2, .inr (.inr (some nb))), (0, .inr (.inr (some 169)))], [.inl (0 : Int32), .inr (.inr (some 169))], H)) (C := []) rfl trivial ?_
        exact mw_cE (as := [.inl (0 : Int32)]) (o := some 169) (S1 := []) rfl rfl rfl rfl (Nat.le_of_ble_eq_true rfl) (by decide) hr.2.2.1.1 rfl (by decide) (rp_sound (d := d + 4) (x := 0)) (fun H9 e9 => by rw [e9.2]; exact hE1 rfl h3) (fun v9 H9 e9 => absurd rfl e9.1)
      · -- 195
        refine mw_go mu_g434 (k := 2) (f1 := (200, [(7, .inl (nI q)), (4, .inr (.inr (some s))), (3, .inr (.inr (some (D.ip j)))), (2, .inr (.inr (some nb))), (0, .inr (.inr (some 169)))], [.inl (1 : Int32), .inr (.inr (some 169))], H)) (C := []) rfl trivial ?_
        refine mw_cE (as := [.inl (1 : Int32)]) (o := some 169) (S1 := []) rfl rfl rfl rfl (Nat.le_of_ble_eq_true rfl) (by decide) hr.2.2.1.1 rfl (by decide) (rp_sound (d := d + 4) (x := 1)) (fun H9 e9 => absurd e9.1 (by decide)) (fun v9 H9 e9 => ?_)
        obtain ⟨_, rfl, e9⟩ := e9
        rw [e9]
        clear e9 H9
        show mu_W _ mu_m434 (203, [(7, .inl (nI q)), (4, .inr (.inr (some s))), (3, .inr (.inr (some (D.ip j)))), (2, .inr (.inr (some nb))), (0, .inr (.inr (some 169)))], [], H) _
        refine mw_go mu_g434 (k := 1) (f1 := (249, [(7, .inl (nI q)), (4, .inr (.inr (some s))), (3, .inr (.inr (some (D.ip j)))), (2, .inr (.inr (some nb))), (0, .inr (.inr (some 169)))], [], H)) (C := []) rfl trivial ?_
        exact mw_of (fun _ => mu_ret rfl trivial (hA rfl h3))
  | none =>
    show mu_W _ _ (182, [(7, .inl (-1 : Int32)), (4, .inr (.inr (some s))), (3, .inr (.inr (some (D.ip j)))), (2, .inr (.inr (some nb))), (0, .inr (.inr (some 169)))], [], H) _
    obtain ⟨ia1, ⟨m, im1, id1⟩, ig1, ⟨iv1, ii1, if1⟩, vz1, nz1, dz1, wf1, w31_1⟩ := hr.ins hj
    refine mw_go mu_g434 (k := 1) (f1 := (184, [(7, .inl (-1 : Int32)), (4, .inr (.inr (some s))), (3, .inr (.inr (some (D.ip j)))), (2, .inr (.inr (some nb))), (0, .inr (.inr (some 169)))], [.inl (-1 : Int32)], H)) (C := []) rfl trivial ?_
    refine mw_if (P := (-1 : Int32) < 0) (a := 206) (b := 187) (fun _ => rfl) trivial (fun h2 => ?_) (fun h2 => absurd (show (-1 : Int32) < 0 by decide) h2)
    · -- 206
      refine mw_go mu_g434 (k := 2) (f1 := (210, [(7, .inl (-1 : Int32)), (4, .inr (.inr (some s))), (3, .inr (.inr (some (D.ip j)))), (2, .inr (.inr (some nb))), (0, .inr (.inr (some 169)))], [.inl (mu_i H 169 21)], H)) (C := [mu_is H (some 169) 1]) rfl (show mu_is H (some 169) 1 from hr.2.2.1.1) ?_
      refine mw_fr (f' := (210, [(7, .inl (-1 : Int32)), (4, .inr (.inr (some s))), (3, .inr (.inr (some (D.ip j)))), (2, .inr (.inr (some nb))), (0, .inr (.inr (some 169)))], [.inl c], H)) (by first | (rw [h21]; done) | (rw [h21]; rfl)) ?_
      refine mw_if (P := c < 0) (a := 213) (b := 249) (fun _ => rfl) trivial (fun h3 => ?_) (fun h3 => ?_)
      · -- 213
        refine mw_go mu_g434 (k := 3) (f1 := (216, [(7, .inl (-1 : Int32)), (4, .inr (.inr (some s))), (3, .inr (.inr (some (D.ip j)))), (2, .inr (.inr (some nb))), (0, .inr (.inr (some 169)))], [.inl (Int32.ofNat (mu_n H nb)), .inr (.inr (some 169))], H)) (C := [mu_isr H (some nb) (mu_k H nb), 100 ≤ mu_k H nb]) rfl (show (mu_isr H (some nb) (mu_k H nb)) ∧ (100 ≤ mu_k H nb) from ⟨⟨rfl, Or.inl hbi.1.2.1, rfl⟩, (by rw [show mu_k H nb = 103 from hbi.1.2.2]; decide)⟩) ?_
        refine mw_fr (f' := (216, [(7, .inl (-1 : Int32)), (4, .inr (.inr (some s))), (3, .inr (.inr (some (D.ip j)))), (2, .inr (.inr (some nb))), (0, .inr (.inr (some 169)))], [.inl (Int32.ofNat ns.length), .inr (.inr (some 169))], H)) (by first | (rw [hbi.2.1]; done) | (rw [hbi.2.1]; rfl)) ?_
        refine mw_go mu_g434 (k := 1) (f1 := (217, [(7, .inl (-1 : Int32)), (4, .inr (.inr (some s))), (3, .inr (.inr (some (D.ip j)))), (2, .inr (.inr (some nb))), (0, .inr (.inr (some 169)))], [.inl (1 : Int32), .inl (Int32.ofNat ns.length), .inr (.inr (some 169))], H)) (C := []) rfl trivial ?_
        refine mw_if (P := (Int32.ofNat ns.length) = (1 : Int32)) (a := 220) (b := 229) (fun _ => rfl) trivial (fun h4 => ?_) (fun h4 => ?_)
        · -- 220
          have hl1 : ns.length = 1 := nI_is (x := (1 : Int32)) (by omega) (show nI ns.length = 1 from h4) (by decide)
          refine mw_go mu_g434 (k := 2) (f1 := (223, [(7, .inl (-1 : Int32)), (4, .inr (.inr (some s))), (3, .inr (.inr (some (D.ip j)))), (2, .inr (.inr (some nb))), (0, .inr (.inr (some 169)))], [.inr (.inr (some s)), .inr (.inr (some 169)), .inr (.inr (some 169))], H)) (C := []) rfl trivial ?_
          refine mw_cIe (fun _ => rfl) (show mu_is H (some 169) 1 from hr.2.2.1.1) (rp_symbol (d := d + 2) hr.2.2.1.1 hr.syl sf.1 (Nat.lt_trans sf.2.2 (by decide))) ?_
          refine mw_go mu_g434 (k := 2) (f1 := (233, [(7, .inl (-1 : Int32)), (4, .inr (.inr (some s))), (3, .inr (.inr (some (D.ip j)))), (2, .inr (.inr (some nb))), (0, .inr (.inr (some 169)))], [], (mu_si H 169 20 (fid (fun i => decide (D.sy.getD i [] = (ns.getD (ns.length - 1) []))) D.sy.length 0)))) (C := [mu_is H (some 169) 1]) rfl (show mu_is H (some 169) 1 from hr.2.2.1.1) ?_
          have h20 : mu_i (mu_si H 169 20 (fid (fun i => decide (D.sy.getD i [] = (ns.getD (ns.length - 1) []))) D.sy.length 0)) 169 20 = (fid (fun i => decide (D.sy.getD i [] = (ns.getD (ns.length - 1) []))) D.sy.length 0) := by rw [mu_i_si, if_pos ⟨rfl, rfl⟩]
          refine mw_go mu_g434 (k := 3) (f1 := (238, [(7, .inl (-1 : Int32)), (4, .inr (.inr (some s))), (3, .inr (.inr (some (D.ip j)))), (2, .inr (.inr (some nb))), (0, .inr (.inr (some 169)))], [.inl (fid (fun i => decide (D.sy.getD i [] = (ns.getD (ns.length - 1) []))) D.sy.length 0), .inr (.inr (some 169))], (mu_si H 169 20 (fid (fun i => decide (D.sy.getD i [] = (ns.getD (ns.length - 1) []))) D.sy.length 0)))) (C := [mu_is H (some 169) 1]) rfl (show mu_is H (some 169) 1 from hr.2.2.1.1) ?_
          refine mw_if (P := (fid (fun i => decide (D.sy.getD i [] = (ns.getD (ns.length - 1) []))) D.sy.length 0) < 0) (a := 245) (b := 241) (fun _ => rfl) trivial (fun h5 => ?_) (fun h5 => ?_)
          · -- 245
            refine mw_go mu_g434 (k := 1) (f1 := (246, [(7, .inl (-1 : Int32)), (4, .inr (.inr (some s))), (3, .inr (.inr (some (D.ip j)))), (2, .inr (.inr (some nb))), (0, .inr (.inr (some 169)))], [.inl (0 : Int32), .inr (.inr (some 169))], (mu_si H 169 20 (fid (fun i => decide (D.sy.getD i [] = (ns.getD (ns.length - 1) []))) D.sy.length 0)))) (C := []) rfl trivial ?_
            have z := hE2 rfl h3
            rw [if_pos hl1] at z
            exact mw_cE (as := [.inl (0 : Int32)]) (o := some 169) (S1 := []) rfl rfl rfl rfl (Nat.le_of_ble_eq_true rfl) (by decide) hr.2.2.1.1 rfl (by decide) (rp_sound (d := d + 4) (x := 0)) (fun H9 e9 => by rw [e9.2]; exact z h5) (fun v9 H9 e9 => absurd rfl e9.1)
          · -- 241
            refine mw_go mu_g434 (k := 2) (f1 := (246, [(7, .inl (-1 : Int32)), (4, .inr (.inr (some s))), (3, .inr (.inr (some (D.ip j)))), (2, .inr (.inr (some nb))), (0, .inr (.inr (some 169)))], [.inl (1 : Int32), .inr (.inr (some 169))], (mu_si H 169 20 (fid (fun i => decide (D.sy.getD i [] = (ns.getD (ns.length - 1) []))) D.sy.length 0)))) (C := []) rfl trivial ?_
            have z := hC rfl h3
            rw [if_pos hl1] at z
            refine mw_cE (as := [.inl (1 : Int32)]) (o := some 169) (S1 := []) rfl rfl rfl rfl (Nat.le_of_ble_eq_true rfl) (by decide) hr.2.2.1.1 rfl (by decide) (rp_sound (d := d + 4) (x := 1)) (fun H9 e9 => absurd e9.1 (by decide)) (fun v9 H9 e9 => ?_)
            obtain ⟨_, rfl, e9⟩ := e9
            rw [e9]
            clear e9 H9
            show mu_W _ mu_m434 (249, [(7, .inl (-1 : Int32)), (4, .inr (.inr (some s))), (3, .inr (.inr (some (D.ip j)))), (2, .inr (.inr (some nb))), (0, .inr (.inr (some 169)))], [], (mu_si H 169 20 (fid (fun i => decide (D.sy.getD i [] = (ns.getD (ns.length - 1) []))) D.sy.length 0))) _
            exact mw_of (fun _ => mu_ret rfl trivial (z h5))
        · -- 229
          have hl1 : ¬ ns.length = 1 := fun w => h4 (by rw [w]; rfl)
          refine mw_go mu_g434 (k := 2) (f1 := (233, [(7, .inl (-1 : Int32)), (4, .inr (.inr (some s))), (3, .inr (.inr (some (D.ip j)))), (2, .inr (.inr (some nb))), (0, .inr (.inr (some 169)))], [], (mu_si H 169 20 (-1 : Int32)))) (C := [mu_is H (some 169) 1]) rfl (show mu_is H (some 169) 1 from hr.2.2.1.1) ?_
          have h20 : mu_i (mu_si H 169 20 (-1 : Int32)) 169 20 = (-1 : Int32) := by rw [mu_i_si, if_pos ⟨rfl, rfl⟩]
          refine mw_go mu_g434 (k := 3) (f1 := (238, [(7, .inl (-1 : Int32)), (4, .inr (.inr (some s))), (3, .inr (.inr (some (D.ip j)))), (2, .inr (.inr (some nb))), (0, .inr (.inr (some 169)))], [.inl (-1 : Int32), .inr (.inr (some 169))], (mu_si H 169 20 (-1 : Int32)))) (C := [mu_is H (some 169) 1]) rfl (show mu_is H (some 169) 1 from hr.2.2.1.1) ?_
          refine mw_if (P := (-1 : Int32) < 0) (a := 245) (b := 241) (fun _ => rfl) trivial (fun h5 => ?_) (fun h5 => ?_)
          · -- 245
            refine mw_go mu_g434 (k := 1) (f1 := (246, [(7, .inl (-1 : Int32)), (4, .inr (.inr (some s))), (3, .inr (.inr (some (D.ip j)))), (2, .inr (.inr (some nb))), (0, .inr (.inr (some 169)))], [.inl (0 : Int32), .inr (.inr (some 169))], (mu_si H 169 20 (-1 : Int32)))) (C := []) rfl trivial ?_
            have z := hE2 rfl h3
            rw [if_neg hl1] at z
            exact mw_cE (as := [.inl (0 : Int32)]) (o := some 169) (S1 := []) rfl rfl rfl rfl (Nat.le_of_ble_eq_true rfl) (by decide) hr.2.2.1.1 rfl (by decide) (rp_sound (d := d + 4) (x := 0)) (fun H9 e9 => by rw [e9.2]; exact z h5) (fun v9 H9 e9 => absurd rfl e9.1)
          · -- 241
            refine mw_go mu_g434 (k := 2) (f1 := (246, [(7, .inl (-1 : Int32)), (4, .inr (.inr (some s))), (3, .inr (.inr (some (D.ip j)))), (2, .inr (.inr (some nb))), (0, .inr (.inr (some 169)))], [.inl (1 : Int32), .inr (.inr (some 169))], (mu_si H 169 20 (-1 : Int32)))) (C := []) rfl trivial ?_
            have z := hC rfl h3
            rw [if_neg hl1] at z
            refine mw_cE (as := [.inl (1 : Int32)]) (o := some 169) (S1 := []) rfl rfl rfl rfl (Nat.le_of_ble_eq_true rfl) (by decide) hr.2.2.1.1 rfl (by decide) (rp_sound (d := d + 4) (x := 1)) (fun H9 e9 => absurd e9.1 (by decide)) (fun v9 H9 e9 => ?_)
            obtain ⟨_, rfl, e9⟩ := e9
            rw [e9]
            clear e9 H9
            show mu_W _ mu_m434 (249, [(7, .inl (-1 : Int32)), (4, .inr (.inr (some s))), (3, .inr (.inr (some (D.ip j)))), (2, .inr (.inr (some nb))), (0, .inr (.inr (some 169)))], [], (mu_si H 169 20 (-1 : Int32))) _
            exact mw_of (fun _ => mu_ret rfl trivial (z h5))
      · -- 249
        exact mw_of (fun _ => mu_ret rfl trivial (hB rfl h3))
