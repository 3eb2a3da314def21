/-! The reference: value whole -/
theorem rp_v66 {tr : Prop} {Hb H : mu_H} {D : MD} {ph pt pk pa j f l dd q : Nat} {c : Tre} (hv : vsta tr Hb D ph pt pk pa H) (hn : nd Hb D.G dd q c) (hw : vcw tr D j (l + 1) c) (hst : hlx D (l + 1) j c) (ih : vlk tr Hb D ph pt pk pa j f l) (ek : tkd c = 66) : mu_W (mu_D (f + 2 * l + 7)) mu_m411 (0, [(0, .inr (.inr (some 169))), (1, .inr (.inr (some q))), (2, .inr (.inr (some (D.ip j))))], [], H) (fun r => ∃ x H1, r = (.inl (some (.inl x)), H1) ∧ vsta tr Hb D ph pt pk pa H1 ∧ vfk pk pa H H1) := by
  obtain ⟨kd1, ⟨is1, nF1, lt1⟩, ⟨st1, sr1, sf1⟩, ⟨n2_1, n3_1, n7_1⟩, nm1, ar1, aq1, aF1, ai1, ⟨al1, am1, ax1⟩, ch1, dp1⟩ := nd.ra (c := c) hn hv.1.2.1
  refine mw_go mu_g411 (k := 2) (f1 := (4, [(0, .inr (.inr (some 169))), (1, .inr (.inr (some q))), (2, .inr (.inr (some (D.ip j))))], [.inl (mu_i H q 7)], H)) (C := [mu_is H (some q) 18]) rfl (show mu_is H (some q) 18 from is1) ?_
  refine mw_fr (f' := (4, [(0, .inr (.inr (some 169))), (1, .inr (.inr (some q))), (2, .inr (.inr (some (D.ip j))))], [.inl (cof (txt (tkd c)))], H)) (by first | (rw [n7_1]; done) | (rw [n7_1]; rfl)) ?_
  refine mw_fr (f' := (4, [(0, .inr (.inr (some 169))), (1, .inr (.inr (some q))), (2, .inr (.inr (some (D.ip j))))], [.inl (12 : Int32)], H)) (by rw [show (cof (txt (tkd c))) = (12 : Int32) by rw [ek]; decide]) ?_
  refine mw_swi (i := 11) rfl (by decide) rfl (by decide) (by decide) ?_
  show mu_W _ mu_m411 (388, [(0, .inr (.inr (some 169))), (1, .inr (.inr (some q))), (2, .inr (.inr (some (D.ip j))))], [], H) _
  refine mw_go mu_g411 (k := 3) (f1 := (391, [(0, .inr (.inr (some 169))), (1, .inr (.inr (some q))), (2, .inr (.inr (some (D.ip j))))], [.inr (.inr (some (D.ip j))), .inr (.inr (some q)), .inr (.inr (some 169))], H)) (C := []) rfl trivial ?_
  refine mw_cI (fun _ => rfl) (show mu_is H (some 169) 1 from hv.1.2.2.1.1) (rp_chainValue hv hn hw hst ih ek) (fun x2 H2 q2 => ?_)
  obtain ⟨hv2, hf2⟩ := q2
  exact mw_of (fun _ => mu_ret rfl trivial ⟨_, _, rfl, hv2, ((vfk.rf (pk := pk) (pa := pa) (H := H)).tr hf2)⟩)
theorem rp_vcp {tr : Prop} {Hb H : mu_H} {D : MD} {ph pt pk pa j f l dd q : Nat} {c : Tre} (hv : vsta tr Hb D ph pt pk pa H) (hn : nd Hb D.G dd q c) (hw : vcw tr D j (l + 1) c) (hst : hlx D (l + 1) j c) (ih : vlk tr Hb D ph pt pk pa j f l) (hk : tkd c ∈ [21, 5, 22, 6, 23, 7, 50]) : mu_W (mu_D (f + 2 * l + 7)) mu_m411 (0, [(0, .inr (.inr (some 169))), (1, .inr (.inr (some q))), (2, .inr (.inr (some (D.ip j))))], [], H) (fun r => ∃ x H1, r = (.inl (some (.inl x)), H1) ∧ vsta tr Hb D ph pt pk pa H1 ∧ vfk pk pa H H1) := by
  obtain ⟨kd1, ⟨is1, nF1, lt1⟩, ⟨st1, sr1, sf1⟩, ⟨n2_1, n3_1, n7_1⟩, nm1, ar1, aq1, aF1, ai1, ⟨al1, am1, ax1⟩, ch1, dp1⟩ := nd.ra (c := c) hn hv.1.2.1
  refine mw_go mu_g411 (k := 2) (f1 := (4, [(0, .inr (.inr (some 169))), (1, .inr (.inr (some q))), (2, .inr (.inr (some (D.ip j))))], [.inl (mu_i H q 7)], H)) (C := [mu_is H (some q) 18]) rfl (show mu_is H (some q) 18 from is1) ?_
  refine mw_fr (f' := (4, [(0, .inr (.inr (some 169))), (1, .inr (.inr (some q))), (2, .inr (.inr (some (D.ip j))))], [.inl (cof (txt (tkd c)))], H)) (by first | (rw [n7_1]; done) | (rw [n7_1]; rfl)) ?_
  have hk2 := hk
  simp only [List.mem_cons, List.not_mem_nil, or_false] at hk2
  rcases hk2 with ek | ek | ek | ek | ek | ek | ek
  ·
    refine mw_fr (f' := (4, [(0, .inr (.inr (some 169))), (1, .inr (.inr (some q))), (2, .inr (.inr (some (D.ip j))))], [.inl (13 : Int32)], H)) (by rw [show (cof (txt (tkd c))) = (13 : Int32) by rw [ek]; decide]) ?_
    refine mw_swd rfl (by decide) (by decide) (by decide) ?_
    show mu_W _ mu_m411 (395, [(0, .inr (.inr (some 169))), (1, .inr (.inr (some q))), (2, .inr (.inr (some (D.ip j))))], [], H) _
    refine mw_go mu_g411 (k := 3) (f1 := (398, [(0, .inr (.inr (some 169))), (1, .inr (.inr (some q))), (2, .inr (.inr (some (D.ip j))))], [.inr (.inr (some (D.ip j))), .inr (.inr (some q)), .inr (.inr (some 169))], H)) (C := []) rfl trivial ?_
    refine mw_cI (fun _ => rfl) (show mu_is H (some 169) 1 from hv.1.2.2.1.1) (rp_compared hv hn hw hst ih hk) (fun x2 H2 q2 => ?_)
    obtain ⟨hv2, hf2⟩ := q2
    exact mw_of (fun _ => mu_ret rfl trivial ⟨_, _, rfl, hv2, ((vfk.rf (pk := pk) (pa := pa) (H := H)).tr hf2)⟩)
  ·
    refine mw_fr (f' := (4, [(0, .inr (.inr (some 169))), (1, .inr (.inr (some q))), (2, .inr (.inr (some (D.ip j))))], [.inl (14 : Int32)], H)) (by rw [show (cof (txt (tkd c))) = (14 : Int32) by rw [ek]; decide]) ?_
    refine mw_swd rfl (by decide) (by decide) (by decide) ?_
    show mu_W _ mu_m411 (395, [(0, .inr (.inr (some 169))), (1, .inr (.inr (some q))), (2, .inr (.inr (some (D.ip j))))], [], H) _
    refine mw_go mu_g411 (k := 3) (f1 := (398, [(0, .inr (.inr (some 169))), (1, .inr (.inr (some q))), (2, .inr (.inr (some (D.ip j))))], [.inr (.inr (some (D.ip j))), .inr (.inr (some q)), .inr (.inr (some 169))], H)) (C := []) rfl trivial ?_
    refine mw_cI (fun _ => rfl) (show mu_is H (some 169) 1 from hv.1.2.2.1.1) (rp_compared hv hn hw hst ih hk) (fun x3 H3 q3 => ?_)
    obtain ⟨hv3, hf3⟩ := q3
    exact mw_of (fun _ => mu_ret rfl trivial ⟨_, _, rfl, hv3, ((vfk.rf (pk := pk) (pa := pa) (H := H)).tr hf3)⟩)
  ·
    refine mw_fr (f' := (4, [(0, .inr (.inr (some 169))), (1, .inr (.inr (some q))), (2, .inr (.inr (some (D.ip j))))], [.inl (15 : Int32)], H)) (by rw [show (cof (txt (tkd c))) = (15 : Int32) by rw [ek]; decide]) ?_
    refine mw_swd rfl (by decide) (by decide) (by decide) ?_
    show mu_W _ mu_m411 (395, [(0, .inr (.inr (some 169))), (1, .inr (.inr (some q))), (2, .inr (.inr (some (D.ip j))))], [], H) _
    refine mw_go mu_g411 (k := 3) (f1 := (398, [(0, .inr (.inr (some 169))), (1, .inr (.inr (some q))), (2, .inr (.inr (some (D.ip j))))], [.inr (.inr (some (D.ip j))), .inr (.inr (some q)), .inr (.inr (some 169))], H)) (C := []) rfl trivial ?_
    refine mw_cI (fun _ => rfl) (show mu_is H (some 169) 1 from hv.1.2.2.1.1) (rp_compared hv hn hw hst ih hk) (fun x4 H4 q4 => ?_)
    obtain ⟨hv4, hf4⟩ := q4
    exact mw_of (fun _ => mu_ret rfl trivial ⟨_, _, rfl, hv4, ((vfk.rf (pk := pk) (pa := pa) (H := H)).tr hf4)⟩)
  ·
    refine mw_fr (f' := (4, [(0, .inr (.inr (some 169))), (1, .inr (.inr (some q))), (2, .inr (.inr (some (D.ip j))))], [.inl (16 : Int32)], H)) (by rw [show (cof (txt (tkd c))) = (16 : Int32) by rw [ek]; decide]) ?_
    refine mw_swd rfl (by decide) (by decide) (by decide) ?_
    show mu_W _ mu_m411 (395, [(0, .inr (.inr (some 169))), (1, .inr (.inr (some q))), (2, .inr (.inr (some (D.ip j))))], [], H) _
    refine mw_go mu_g411 (k := 3) (f1 := (398, [(0, .inr (.inr (some 169))), (1, .inr (.inr (some q))), (2, .inr (.inr (some (D.ip j))))], [.inr (.inr (some (D.ip j))), .inr (.inr (some q)), .inr (.inr (some 169))], H)) (C := []) rfl trivial ?_
    refine mw_cI (fun _ => rfl) (show mu_is H (some 169) 1 from hv.1.2.2.1.1) (rp_compared hv hn hw hst ih hk) (fun x5 H5 q5 => ?_)
    obtain ⟨hv5, hf5⟩ := q5
    exact mw_of (fun _ => mu_ret rfl trivial ⟨_, _, rfl, hv5, ((vfk.rf (pk := pk) (pa := pa) (H := H)).tr hf5)⟩)
  ·
    refine mw_fr (f' := (4, [(0, .inr (.inr (some 169))), (1, .inr (.inr (some q))), (2, .inr (.inr (some (D.ip j))))], [.inl (17 : Int32)], H)) (by rw [show (cof (txt (tkd c))) = (17 : Int32) by rw [ek]; decide]) ?_
    refine mw_swd rfl (by decide) (by decide) (by decide) ?_
    show mu_W _ mu_m411 (395, [(0, .inr (.inr (some 169))), (1, .inr (.inr (some q))), (2, .inr (.inr (some (D.ip j))))], [], H) _
    refine mw_go mu_g411 (k := 3) (f1 := (398, [(0, .inr (.inr (some 169))), (1, .inr (.inr (some q))), (2, .inr (.inr (some (D.ip j))))], [.inr (.inr (some (D.ip j))), .inr (.inr (some q)), .inr (.inr (some 169))], H)) (C := []) rfl trivial ?_
    refine mw_cI (fun _ => rfl) (show mu_is H (some 169) 1 from hv.1.2.2.1.1) (rp_compared hv hn hw hst ih hk) (fun x6 H6 q6 => ?_)
    obtain ⟨hv6, hf6⟩ := q6
    exact mw_of (fun _ => mu_ret rfl trivial ⟨_, _, rfl, hv6, ((vfk.rf (pk := pk) (pa := pa) (H := H)).tr hf6)⟩)
  ·
    refine mw_fr (f' := (4, [(0, .inr (.inr (some 169))), (1, .inr (.inr (some q))), (2, .inr (.inr (some (D.ip j))))], [.inl (18 : Int32)], H)) (by rw [show (cof (txt (tkd c))) = (18 : Int32) by rw [ek]; decide]) ?_
    refine mw_swd rfl (by decide) (by decide) (by decide) ?_
    show mu_W _ mu_m411 (395, [(0, .inr (.inr (some 169))), (1, .inr (.inr (some q))), (2, .inr (.inr (some (D.ip j))))], [], H) _
    refine mw_go mu_g411 (k := 3) (f1 := (398, [(0, .inr (.inr (some 169))), (1, .inr (.inr (some q))), (2, .inr (.inr (some (D.ip j))))], [.inr (.inr (some (D.ip j))), .inr (.inr (some q)), .inr (.inr (some 169))], H)) (C := []) rfl trivial ?_
    refine mw_cI (fun _ => rfl) (show mu_is H (some 169) 1 from hv.1.2.2.1.1) (rp_compared hv hn hw hst ih hk) (fun x7 H7 q7 => ?_)
    obtain ⟨hv7, hf7⟩ := q7
    exact mw_of (fun _ => mu_ret rfl trivial ⟨_, _, rfl, hv7, ((vfk.rf (pk := pk) (pa := pa) (H := H)).tr hf7)⟩)
  ·
    refine mw_fr (f' := (4, [(0, .inr (.inr (some 169))), (1, .inr (.inr (some q))), (2, .inr (.inr (some (D.ip j))))], [.inl (19 : Int32)], H)) (by rw [show (cof (txt (tkd c))) = (19 : Int32) by rw [ek]; decide]) ?_
    refine mw_swd rfl (by decide) (by decide) (by decide) ?_
    show mu_W _ mu_m411 (395, [(0, .inr (.inr (some 169))), (1, .inr (.inr (some q))), (2, .inr (.inr (some (D.ip j))))], [], H) _
    refine mw_go mu_g411 (k := 3) (f1 := (398, [(0, .inr (.inr (some 169))), (1, .inr (.inr (some q))), (2, .inr (.inr (some (D.ip j))))], [.inr (.inr (some (D.ip j))), .inr (.inr (some q)), .inr (.inr (some 169))], H)) (C := []) rfl trivial ?_
    refine mw_cI (fun _ => rfl) (show mu_is H (some 169) 1 from hv.1.2.2.1.1) (rp_compared hv hn hw hst ih hk) (fun x8 H8 q8 => ?_)
    obtain ⟨hv8, hf8⟩ := q8
    exact mw_of (fun _ => mu_ret rfl trivial ⟨_, _, rfl, hv8, ((vfk.rf (pk := pk) (pa := pa) (H := H)).tr hf8)⟩)
theorem rp_valueL {tr : Prop} {Hb : mu_H} {D : MD} {ph pt pk pa f : Nat} (hb : mdb D) (hy : mdy D) (hmx : mdx2 D) (hvw : ∀ s, s < (D.pr 0).length → vcw tr D (own D s) 905 (stdt D s)) : ∀ l j, j < D.n → vlk tr Hb D ph pt pk pa j f l
  | 0, _, _ => fun _ _ _ _ _ _ hw _ => hw.1.elim
  | l + 1, j, hj => fun q c H dd hv hn hw hst => by
    have ih := rp_valueL (tr := tr) (Hb := Hb) (ph := ph) (pt := pt) (pk := pk) (pa := pa) (f := f) hb hy hmx hvw l j hj
    refine mu_meth (M := mu_m411) rfl rfl ?_
    refine mw_ht (mu_fn_of (show [0, 1, 2].Nodup by decide)) ?_
    refine mu_Wc (show f + 2 * l + 7 = f + 2 * (l + 1) + 5 by omega) ?_
    have nt := hw.2.2.1
    have hx := hw.1
    have t : ∀ {k : Nat}, k ∈ [41, 42, 43, 44, 45, 46, 47, 48] → ¬ tkd c = k := fun h e => nt (by rw [e]; exact h)
    rcases hx with h | h | h | h | h | h | h
    · have h := h.1
      simp only [List.mem_cons, List.not_mem_nil, or_false] at h
      rcases h with ek | ek | ek
      · exact rp_v63 hb hy hj hv hn hw hst ek
      · exact rp_v54 hb hy hj hv hn hw hst ek
      · exact rp_v55 hb hy hj hv hn hw hst ek
    · have h := h.1
      simp only [List.mem_cons, List.not_mem_nil, or_false] at h
      rcases h with ek | ek
      · refine rp_v64 hb hy hj hv hn hw hst ek (fun t ht => ?_)
        rcases ht with ⟨_, x, x1, x2, x3⟩ | ⟨no, _⟩
        · have h3 := hst.1 x t ek x1 x2 x3
          intro H' hv'
          exact mu_TI.up (show f + 2 * l + 6 + 1 ≤ f + 2 * l + 7 by omega) (rp_standing hb x3 hv' (fun q' H2 dd' hv2 hn2 => rp_valueL (tr := tr) (Hb := Hb) (ph := ph) (pt := pt) (pk := pk) (pa := pa) (f := f) hb hy hmx hvw l (own D t) (hmx t x3).2 q' _ H2 dd' hv2 hn2 ((hvw t x3).h h3) h3))
        · exact absurd (by rw [ek]; decide) no
      · exact rp_v33 hb hy hj hv hn hw hst ek
    · have h := h.1
      simp only [List.mem_cons, List.not_mem_nil, or_false] at h
      rcases h with ek | ek | ek | ek | ek | ek | ek | ek
      · exact rp_v18 hv hn hw hst ih ek
      · exact rp_v65 hv hn hw hst ih ek
      all_goals exact absurd ek (t (by decide))
    · have h := h.1
      have h2 : tkd c ∈ [21, 5, 22, 6, 23, 7, 50] := by
        simp only [List.mem_cons, List.not_mem_nil, or_false] at h ⊢
        rcases h with ek | ek | h
        · exact absurd ek (t (by decide))
        · exact absurd ek (t (by decide))
        · omega
      exact rp_vcp hv hn hw hst ih h2
    · have h := h.1
      simp only [List.mem_cons, List.not_mem_nil, or_false] at h
      rcases h with ek | ek | ek | ek
      · exact rp_v2 hv hn hw hst ih ek
      · exact rp_v19 hv hn hw hst ih ek
      · exact rp_v1 hv hn hw hst ih ek
      · exact rp_vcp hv hn hw hst ih (by rw [ek]; decide)
    · exact rp_v52 hv hn hw hst ih h.1
    · exact rp_v66 hv hn hw hst ih h.1
/-- value, for any expression that can be told -/
theorem rp_val {tr : Prop} {Hb H : mu_H} {D : MD} {ph pt pk pa d j q dd : Nat} {c : Tre} (hb : mdb D) (hy : mdy D) (hmx : mdx2 D) (hvw : ∀ s, s < (D.pr 0).length → vcw tr D (own D s) 905 (stdt D s)) (hj : j < D.n) (hv : vsta tr Hb D ph pt pk pa H) (hn : nd Hb D.G dd q c) (hw : vcq tr D j c) : mu_TI (mu_D (d + 246)) 411 [.inr (.inr (some 169)), .inr (.inr (some q)), .inr (.inr (some (D.ip j)))] H (fun _ H1 => vsta tr Hb D ph pt pk pa H1 ∧ vfk pk pa H H1) :=
  mu_TI.up (show d + 2 * 120 + 6 ≤ d + 246 by omega) (rp_valueL (f := d) hb hy hmx hvw 120 j hj q c H dd hv hn (hw.1.h hw.2) hw.2)
/-! Sound sorts: values can be told -/
def nvo (D : MD) (j : Nat) (wh : Int32) : Nat → Tre → Prop
  | 0, _ => False
  | l + 1, c => (tkd c = 33 → wh = 1 ∧ ∃ x, fno D j (tns c) = some x ∧ ¬ x.1 < 0) ∧ ∀ k, k < tsn c → nvo D j wh l (lkp c k)
/-- nothing temporal -/
def tmfr : Nat → Tre → Prop
  | 0, _ => False
  | l + 1, c => ¬ tkd c ∈ [41, 42, 43, 44, 45, 46, 47, 48] ∧ ∀ k, k < tsn c → tmfr l (lkp c k)
theorem nxo_of {tr : Prop} {D : MD} {j : Nat} {wh : Int32} (ht : wh = 1 → tr) : ∀ {l : Nat} {c : Tre}, nvo D j wh l c → tmfr l c → nxo tr D j l c
  | 0, _, h, _ => h.elim
  | _ + 1, _, h, t => ⟨t.1, fun e => ⟨ht (h.1 e).1, (h.1 e).2⟩, fun k hk => nxo_of ht (h.2 k hk) (t.2 k hk)⟩
theorem csl_some {f : Nat → Option Int32} {s : Int32} : ∀ m k cm, csl f m k cm = some s → ∀ i, k ≤ i → i < k + m → ∃ s', f i = some s'
  | 0, _, _, _ => fun i h1 h2 => by omega
  | m + 1, k, cm, h => fun i h1 h2 => by
    rw [csl] at h
    cases e : f k with
    | none => rw [e] at h; cases h
    | some x =>
      rw [e] at h
      dsimp only at h
      by_cases g : i = k
      · rw [g]; exact ⟨x, e⟩
      · by_cases g2 : x = (if k % 2 = 0 then 1 else if k = 1 then x else cm)
        · rw [if_pos g2] at h
          exact csl_some m (k + 1) _ h i (by omega) (by omega)
        · rw [if_neg g2] at h; cases h
theorem cnl_some {f : Nat → Option Int32} {cm s : Int32} : ∀ m k, cnl f cm m k = some s → ∀ i, k ≤ i → i < k + m → ∃ s', f i = some s'
  | 0, _, _ => fun i h1 h2 => by omega
  | m + 1, k, h => fun i h1 h2 => by
    rw [cnl] at h
    cases e : f k with
    | none => rw [e] at h; cases h
    | some x =>
      rw [e] at h
      dsimp only at h
      by_cases g : i = k
      · rw [g]; exact ⟨x, e⟩
      · split at h
        · exact cnl_some m (k + 1) h i (by omega) (by omega)
        · cases h
theorem gnl_some {f : Nat → Option Int32} {al s : Int32} : ∀ m k cm, gnl f al m k cm = some s → ∀ i, k ≤ i → i < k + m → ∃ s', f i = some s'
  | 0, _, _, _ => fun i h1 h2 => by omega
  | m + 1, k, cm, h => fun i h1 h2 => by
    rw [gnl] at h
    cases e : f k with
    | none => rw [e] at h; cases h
    | some x =>
      rw [e] at h
      dsimp only at h
      by_cases g : i = k
      · rw [g]; exact ⟨x, e⟩
      · by_cases g2 : x = (if al = 0 then cm else if k = 0 then x else cm)
        · rw [if_pos g2] at h
          exact gnl_some m (k + 1) _ h i (by omega) (by omega)
        · rw [if_neg g2] at h; cases h
theorem srt_ok {D : MD} {j : Nat} {ss : Nat → Int32} {wh : Int32} : ∀ {l : Nat} {pl : Int32} {c : Tre} {s : Int32}, srt D j ss wh l pl c = some s → exw l c → nvo D j wh l c ∧ ((wh ≠ 2 ∨ pl = 1) → tmfr l c)
  | 0, _, _, _, _, h => h.elim
  | l + 1, pl, c, s, h, hx => by
    have go : (tkd c = 33 → wh = 1 ∧ ∃ x, fno D j (tns c) = some x ∧ ¬ x.1 < 0) → ((wh ≠ 2 ∨ pl = 1) → ¬ tkd c ∈ [41, 42, 43, 44, 45, 46, 47, 48]) → (∀ k, k < tsn c → ∃ pl' s', srt D j ss wh l pl' (lkp c k) = some s' ∧ (pl = 1 → pl' = 1)) → nvo D j wh (l + 1) c ∧ ((wh ≠ 2 ∨ pl = 1) → tmfr (l + 1) c) := fun a1 a2 a3 => by
      refine ⟨⟨a1, fun k hk => ?_⟩, fun z => ⟨a2 z, fun k hk => ?_⟩⟩
      · obtain ⟨pl', s', e1, e2⟩ := a3 k hk
        exact (srt_ok e1 (hx.lk hk).1).1
      · obtain ⟨pl', s', e1, e2⟩ := a3 k hk
        exact (srt_ok e1 (hx.lk hk).1).2 (z.imp id e2)
    have leaf : ∀ {n : Nat}, n ∈ [63, 54, 55, 64, 33] → tkd c = n → ∀ k, k < tsn c → False := fun {n} hn e k hk => by
      have no : ∀ {ks : List Nat}, tkd c ∈ ks → ∃ x, x ∈ [63, 54, 55, 64, 33] ∧ x ∈ ks := fun h1 => ⟨_, by rw [e]; exact hn, h1⟩
      rcases hx with g | g | g | g | g | g | g
      · omega
      · omega
      · exact absurd (no g.1) (by decide)
      · exact absurd (no g.1) (by decide)
      · exact absurd (no g.1) (by decide)
      · rw [g.1] at e; subst e; exact absurd hn (by decide)
      · rw [g.1] at e; subst e; exact absurd hn (by decide)
    have lf : ∀ {n : Nat}, n ∈ [63, 54, 55, 64, 33] → tkd c = n → ¬ tkd c ∈ [41, 42, 43, 44, 45, 46, 47, 48] := fun {n} hn e z => by
      rw [e] at z
      simp only [List.mem_cons, List.not_mem_nil, or_false] at hn z
      omega
    by_cases e1 : tkd c = 63
    · exact go (fun z => by omega) (fun _ => lf (by decide) e1) (fun k hk => (leaf (by decide) e1 k hk).elim)
    by_cases e2 : tkd c = 54 ∨ tkd c = 55
    · rcases e2 with e2 | e2
      · exact go (fun z => by omega) (fun _ => lf (by decide) e2) (fun k hk => (leaf (by decide) e2 k hk).elim)
      · exact go (fun z => by omega) (fun _ => lf (by decide) e2) (fun k hk => (leaf (by decide) e2 k hk).elim)
    by_cases e3 : tkd c = 64
    · exact go (fun z => by omega) (fun _ => lf (by decide) e3) (fun k hk => (leaf (by decide) e3 k hk).elim)
    by_cases e4 : tkd c = 33
    · refine go (fun _ => ?_) (fun _ => lf (by decide) e4) (fun k hk => (leaf (by decide) e4 k hk).elim)
      rw [srt, if_neg e1, if_neg e2, if_neg e3, if_pos e4] at h
      by_cases w1 : wh = 1
      · rw [if_pos w1] at h
        cases g : fno D j (tns c) with
        | none => rw [g] at h; cases h
        | some x =>
          rw [g] at h
          dsimp only at h
          by_cases g2 : x.1 < 0
          · rw [if_pos g2] at h; cases h
          · exact ⟨w1, x, rfl, g2⟩
      · rw [if_neg w1] at h; cases h
    rw [srt_2 e1 e2 e3 e4] at h
    by_cases e5 : tkd c ∈ [41, 42, 43, 44, 45, 46, 47, 48] ∧ ¬ (wh = 2 ∧ pl = 0)
    · rw [if_pos e5] at h; cases h
    rw [if_neg e5] at h
    have a2 : (wh ≠ 2 ∨ pl = 1) → ¬ tkd c ∈ [41, 42, 43, 44, 45, 46, 47, 48] := fun z y => e5 ⟨y, fun w => z.elim (fun z => z w.1) (fun z => by rw [w.2] at z; exact absurd z (by decide))⟩
    refine go (fun z => absurd z e4) a2 (fun k hk => ?_)
    by_cases g1 : tkd c = 52
    · rw [sr2, if_pos g1] at h
      obtain ⟨s', q⟩ := csl_some _ _ _ h k (Nat.zero_le _) (by omega)
      exact ⟨1, s', by rw [lkp_n (by rw [g1]; decide)]; exact q, fun _ => rfl⟩
    by_cases g2 : tkd c = 66
    · rw [sr2, if_neg g1, if_pos g2] at h
      obtain ⟨s', q⟩ := cnl_some _ _ h k (Nat.zero_le _) (by omega)
      exact ⟨_, s', q, fun z => by rw [if_neg (by rw [z]; decide)]⟩
    by_cases g3 : tkd c = 65
    · rw [sr2, if_neg g1, if_neg g2, if_pos g3] at h
      have k0 : k = 0 := by
        have no : ∀ {ks : List Nat}, tkd c ∈ ks → 65 ∈ ks := fun h1 => by rw [← g3]; exact h1
        rcases hx with g | g | g | g | g | g | g
        · omega
        · omega
        · omega
        · exact absurd (no g.1) (by decide)
        · exact absurd (no g.1) (by decide)
        · exact absurd g.1 g1
        · exact absurd g.1 g2
      cases q : srt D j ss wh l 1 (tkk c 0) with
      | none => rw [q] at h; cases h
      | some s' => exact ⟨1, s', by rw [k0, lkp_0]; exact q, fun _ => rfl⟩
    · rw [sr2, if_neg g1, if_neg g2, if_neg g3] at h
      obtain ⟨s', q⟩ := gnl_some _ _ _ h k (Nat.zero_le _) (by omega)
      exact ⟨_, s', by rw [lkp_n g2]; exact q, fun z => by rw [if_neg (fun y => by rw [z] at y; exact absurd y.1 (by decide))]⟩
